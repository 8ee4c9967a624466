/-! instructions, fields, calls -/
def dl_X1_init_0 : List (Nat × Instr × Nat) := [(0, .aload_n 0, 1), (1, .invokespecial 3, 3), (4, .aload_n 0, 1), (5, .bipush 8, 2), (7, .newarray .int, 2), (9, .putfield 11, 3), (12, .return_, 1)]
theorem da_X1_init_0 : dcAll M_X1_init.2.1 dl_X1_init_0 = true := by decide +kernel
theorem q_X1_init_0 : decode M_X1_init.2.1 0 = .ok (.aload_n 0, 1) ∧ 0 + 1 = 1 := ⟨dcAll_e (i := 0) da_X1_init_0 rfl, rfl⟩
theorem q_X1_init_1 : decode M_X1_init.2.1 1 = .ok (.invokespecial 3, 3) ∧ 1 + 3 = 4 := ⟨dcAll_e (i := 1) da_X1_init_0 rfl, rfl⟩
theorem o_RX1_3 : Cond.methodLink RX1 3 Lib.objectInit ∈ en_tbl := by decide +kernel
theorem q_X1_init_4 : decode M_X1_init.2.1 4 = .ok (.aload_n 0, 1) ∧ 4 + 1 = 5 := ⟨dcAll_e (i := 2) da_X1_init_0 rfl, rfl⟩
theorem q_X1_init_5 : decode M_X1_init.2.1 5 = .ok (.bipush 8, 2) ∧ 5 + 2 = 7 := ⟨dcAll_e (i := 3) da_X1_init_0 rfl, rfl⟩
theorem q_X1_init_7 : decode M_X1_init.2.1 7 = .ok (.newarray .int, 2) ∧ 7 + 2 = 9 := ⟨dcAll_e (i := 4) da_X1_init_0 rfl, rfl⟩
theorem q_X1_init_9 : decode M_X1_init.2.1 9 = .ok (.putfield 11, 3) ∧ 9 + 3 = 12 := ⟨dcAll_e (i := 5) da_X1_init_0 rfl, rfl⟩
theorem p_RX1_11 : en_Fp RX1 11 1 2 false (.array .int) := ⟨RX1, TX1, 3, tyX1, rfl, by decide, rfl, inT1 48 rfl rfl, uw_X1, tyX1_ok, nmX1, rfl, by decide +kernel⟩
theorem q_X1_init_12 : decode M_X1_init.2.1 12 = .ok (.return_, 1) ∧ 12 + 1 = 13 := ⟨dcAll_e (i := 6) da_X1_init_0 rfl, rfl⟩
def dl_X1_limbAt_0 : List (Nat × Instr × Nat) := [(0, .iload_n 1, 1), (1, .ifCond .lt 20, 3), (4, .iload_n 1, 1), (5, .aload_n 0, 1), (6, .getfield 15, 3), (9, .if_icmp .ge 12, 3), (12, .iload_n 1, 1), (13, .aload_n 0, 1), (14, .getfield 11, 3), (17, .arraylength, 1), (18, .if_icmp .lt 7, 3), (21, .iconst 0, 1), (22, .goto 9, 3), (25, .aload_n 0, 1), (26, .getfield 11, 3), (29, .iload_n 1, 1), (30, .iaload, 1), (31, .ireturn, 1)]
theorem da_X1_limbAt_0 : dcAll M_X1_limbAt.2.1 dl_X1_limbAt_0 = true := by decide +kernel
theorem q_X1_limbAt_0 : decode M_X1_limbAt.2.1 0 = .ok (.iload_n 1, 1) ∧ 0 + 1 = 1 := ⟨dcAll_e (i := 0) da_X1_limbAt_0 rfl, rfl⟩
theorem q_X1_limbAt_1 : decode M_X1_limbAt.2.1 1 = .ok (.ifCond .lt 20, 3) ∧ 1 + 3 = 4 ∧ ((1 : Nat) : Int) + 20 = ((21 : Nat) : Int) := ⟨dcAll_e (i := 1) da_X1_limbAt_0 rfl, rfl, rfl⟩
theorem q_X1_limbAt_4 : decode M_X1_limbAt.2.1 4 = .ok (.iload_n 1, 1) ∧ 4 + 1 = 5 := ⟨dcAll_e (i := 2) da_X1_limbAt_0 rfl, rfl⟩
theorem q_X1_limbAt_5 : decode M_X1_limbAt.2.1 5 = .ok (.aload_n 0, 1) ∧ 5 + 1 = 6 := ⟨dcAll_e (i := 3) da_X1_limbAt_0 rfl, rfl⟩
theorem q_X1_limbAt_6 : decode M_X1_limbAt.2.1 6 = .ok (.getfield 15, 3) ∧ 6 + 3 = 9 := ⟨dcAll_e (i := 4) da_X1_limbAt_0 rfl, rfl⟩
theorem f_RX1_15 : en_F RX1 15 1 1 := ⟨RX1, TX1, 3, rfl, by decide, rfl, inT1 46 rfl rfl, uw_X1⟩
theorem q_X1_limbAt_9 : decode M_X1_limbAt.2.1 9 = .ok (.if_icmp .ge 12, 3) ∧ 9 + 3 = 12 ∧ ((9 : Nat) : Int) + 12 = ((21 : Nat) : Int) := ⟨dcAll_e (i := 5) da_X1_limbAt_0 rfl, rfl, rfl⟩
theorem q_X1_limbAt_12 : decode M_X1_limbAt.2.1 12 = .ok (.iload_n 1, 1) ∧ 12 + 1 = 13 := ⟨dcAll_e (i := 6) da_X1_limbAt_0 rfl, rfl⟩
theorem q_X1_limbAt_13 : decode M_X1_limbAt.2.1 13 = .ok (.aload_n 0, 1) ∧ 13 + 1 = 14 := ⟨dcAll_e (i := 7) da_X1_limbAt_0 rfl, rfl⟩
theorem q_X1_limbAt_14 : decode M_X1_limbAt.2.1 14 = .ok (.getfield 11, 3) ∧ 14 + 3 = 17 := ⟨dcAll_e (i := 8) da_X1_limbAt_0 rfl, rfl⟩
theorem f_RX1_11 : en_F RX1 11 1 2 := ⟨RX1, TX1, 3, rfl, by decide, rfl, inT1 48 rfl rfl, uw_X1⟩
theorem q_X1_limbAt_17 : decode M_X1_limbAt.2.1 17 = .ok (.arraylength, 1) ∧ 17 + 1 = 18 := ⟨dcAll_e (i := 9) da_X1_limbAt_0 rfl, rfl⟩
theorem q_X1_limbAt_18 : decode M_X1_limbAt.2.1 18 = .ok (.if_icmp .lt 7, 3) ∧ 18 + 3 = 21 ∧ ((18 : Nat) : Int) + 7 = ((25 : Nat) : Int) := ⟨dcAll_e (i := 10) da_X1_limbAt_0 rfl, rfl, rfl⟩
theorem q_X1_limbAt_21 : decode M_X1_limbAt.2.1 21 = .ok (.iconst 0, 1) ∧ 21 + 1 = 22 := ⟨dcAll_e (i := 11) da_X1_limbAt_0 rfl, rfl⟩
theorem q_X1_limbAt_22 : decode M_X1_limbAt.2.1 22 = .ok (.goto 9, 3) ∧ 22 + 3 = 25 ∧ ((22 : Nat) : Int) + 9 = ((31 : Nat) : Int) := ⟨dcAll_e (i := 12) da_X1_limbAt_0 rfl, rfl, rfl⟩
theorem q_X1_limbAt_25 : decode M_X1_limbAt.2.1 25 = .ok (.aload_n 0, 1) ∧ 25 + 1 = 26 := ⟨dcAll_e (i := 13) da_X1_limbAt_0 rfl, rfl⟩
theorem q_X1_limbAt_26 : decode M_X1_limbAt.2.1 26 = .ok (.getfield 11, 3) ∧ 26 + 3 = 29 := ⟨dcAll_e (i := 14) da_X1_limbAt_0 rfl, rfl⟩
theorem q_X1_limbAt_29 : decode M_X1_limbAt.2.1 29 = .ok (.iload_n 1, 1) ∧ 29 + 1 = 30 := ⟨dcAll_e (i := 15) da_X1_limbAt_0 rfl, rfl⟩
theorem q_X1_limbAt_30 : decode M_X1_limbAt.2.1 30 = .ok (.iaload, 1) ∧ 30 + 1 = 31 := ⟨dcAll_e (i := 16) da_X1_limbAt_0 rfl, rfl⟩
theorem q_X1_limbAt_31 : decode M_X1_limbAt.2.1 31 = .ok (.ireturn, 1) ∧ 31 + 1 = 32 := ⟨dcAll_e (i := 17) da_X1_limbAt_0 rfl, rfl⟩
def dl_X1_extend_0 : List (Nat × Instr × Nat) := [(0, .iload_n 1, 1), (1, .aload_n 0, 1), (2, .getfield 11, 3), (5, .arraylength, 1), (6, .if_icmp .le 25, 3), (9, .aload_n 0, 1), (10, .aload_n 0, 1), (11, .getfield 11, 3), (14, .iload_n 1, 1), (15, .iconst 2, 1), (16, .aload_n 0, 1), (17, .getfield 11, 3), (20, .arraylength, 1), (21, .imul, 1), (22, .invokestatic 19, 3), (25, .invokestatic 25, 3), (28, .putfield 11, 3), (31, .aload_n 0, 1), (32, .getfield 15, 3), (35, .istore_n 2, 1), (36, .iload_n 2, 1), (37, .iload_n 1, 1), (38, .if_icmp .ge 16, 3), (41, .aload_n 0, 1), (42, .getfield 11, 3), (45, .iload_n 2, 1), (46, .iconst 0, 1), (47, .iastore, 1), (48, .iinc 2 1, 3), (51, .goto (-15), 3), (54, .aload_n 0, 1), (55, .aload_n 0, 1), (56, .getfield 15, 3), (59, .iload_n 1, 1), (60, .invokestatic 19, 3), (63, .putfield 15, 3), (66, .return_, 1)]
theorem da_X1_extend_0 : dcAll M_X1_extend.2.1 dl_X1_extend_0 = true := by decide +kernel
theorem q_X1_extend_0 : decode M_X1_extend.2.1 0 = .ok (.iload_n 1, 1) ∧ 0 + 1 = 1 := ⟨dcAll_e (i := 0) da_X1_extend_0 rfl, rfl⟩
theorem q_X1_extend_1 : decode M_X1_extend.2.1 1 = .ok (.aload_n 0, 1) ∧ 1 + 1 = 2 := ⟨dcAll_e (i := 1) da_X1_extend_0 rfl, rfl⟩
theorem q_X1_extend_2 : decode M_X1_extend.2.1 2 = .ok (.getfield 11, 3) ∧ 2 + 3 = 5 := ⟨dcAll_e (i := 2) da_X1_extend_0 rfl, rfl⟩
theorem q_X1_extend_5 : decode M_X1_extend.2.1 5 = .ok (.arraylength, 1) ∧ 5 + 1 = 6 := ⟨dcAll_e (i := 3) da_X1_extend_0 rfl, rfl⟩
theorem q_X1_extend_6 : decode M_X1_extend.2.1 6 = .ok (.if_icmp .le 25, 3) ∧ 6 + 3 = 9 ∧ ((6 : Nat) : Int) + 25 = ((31 : Nat) : Int) := ⟨dcAll_e (i := 4) da_X1_extend_0 rfl, rfl, rfl⟩
theorem q_X1_extend_9 : decode M_X1_extend.2.1 9 = .ok (.aload_n 0, 1) ∧ 9 + 1 = 10 := ⟨dcAll_e (i := 5) da_X1_extend_0 rfl, rfl⟩
theorem q_X1_extend_10 : decode M_X1_extend.2.1 10 = .ok (.aload_n 0, 1) ∧ 10 + 1 = 11 := ⟨dcAll_e (i := 6) da_X1_extend_0 rfl, rfl⟩
theorem q_X1_extend_11 : decode M_X1_extend.2.1 11 = .ok (.getfield 11, 3) ∧ 11 + 3 = 14 := ⟨dcAll_e (i := 7) da_X1_extend_0 rfl, rfl⟩
theorem q_X1_extend_14 : decode M_X1_extend.2.1 14 = .ok (.iload_n 1, 1) ∧ 14 + 1 = 15 := ⟨dcAll_e (i := 8) da_X1_extend_0 rfl, rfl⟩
theorem q_X1_extend_15 : decode M_X1_extend.2.1 15 = .ok (.iconst 2, 1) ∧ 15 + 1 = 16 := ⟨dcAll_e (i := 9) da_X1_extend_0 rfl, rfl⟩
theorem q_X1_extend_16 : decode M_X1_extend.2.1 16 = .ok (.aload_n 0, 1) ∧ 16 + 1 = 17 := ⟨dcAll_e (i := 10) da_X1_extend_0 rfl, rfl⟩
theorem q_X1_extend_17 : decode M_X1_extend.2.1 17 = .ok (.getfield 11, 3) ∧ 17 + 3 = 20 := ⟨dcAll_e (i := 11) da_X1_extend_0 rfl, rfl⟩
theorem q_X1_extend_20 : decode M_X1_extend.2.1 20 = .ok (.arraylength, 1) ∧ 20 + 1 = 21 := ⟨dcAll_e (i := 12) da_X1_extend_0 rfl, rfl⟩
theorem q_X1_extend_21 : decode M_X1_extend.2.1 21 = .ok (.imul, 1) ∧ 21 + 1 = 22 := ⟨dcAll_e (i := 13) da_X1_extend_0 rfl, rfl⟩
theorem q_X1_extend_22 : decode M_X1_extend.2.1 22 = .ok (.invokestatic 19, 3) ∧ 22 + 3 = 25 := ⟨dcAll_e (i := 14) da_X1_extend_0 rfl, rfl⟩
theorem a_RX1_19 : Cond.methodLink RX1 19 Lib.Math.max.name ∈ en_tbl := by decide +kernel
theorem q_X1_extend_25 : decode M_X1_extend.2.1 25 = .ok (.invokestatic 25, 3) ∧ 25 + 3 = 28 := ⟨dcAll_e (i := 15) da_X1_extend_0 rfl, rfl⟩
theorem cd_J7_copyOf_59c91 : Cond.code M_J7_copyOf_59c91.1 M_J7_copyOf_59c91.2.1 M_J7_copyOf_59c91.2.2.1 M_J7_copyOf_59c91.2.2.2.1 ∈ en_tbl := inT2 107 rfl rfl
theorem g_X1_extend_25 : en_C M_X1_extend M_J7_copyOf_59c91 25 2 := ⟨⟨inT2 105 rfl rfl, by decide +kernel, cd_J7_copyOf_59c91⟩, ⟨by decide, by decide, by decide +kernel⟩, by decide, by decide⟩
theorem w_J7_copyOf_59c91 : Cond.static M_J7_copyOf_59c91.1 ∈ en_tbl := inT2 106 rfl rfl
theorem q_X1_extend_28 : decode M_X1_extend.2.1 28 = .ok (.putfield 11, 3) ∧ 28 + 3 = 31 := ⟨dcAll_e (i := 16) da_X1_extend_0 rfl, rfl⟩
theorem q_X1_extend_31 : decode M_X1_extend.2.1 31 = .ok (.aload_n 0, 1) ∧ 31 + 1 = 32 := ⟨dcAll_e (i := 17) da_X1_extend_0 rfl, rfl⟩
theorem q_X1_extend_32 : decode M_X1_extend.2.1 32 = .ok (.getfield 15, 3) ∧ 32 + 3 = 35 := ⟨dcAll_e (i := 18) da_X1_extend_0 rfl, rfl⟩
theorem q_X1_extend_35 : decode M_X1_extend.2.1 35 = .ok (.istore_n 2, 1) ∧ 35 + 1 = 36 := ⟨dcAll_e (i := 19) da_X1_extend_0 rfl, rfl⟩
theorem q_X1_extend_36 : decode M_X1_extend.2.1 36 = .ok (.iload_n 2, 1) ∧ 36 + 1 = 37 := ⟨dcAll_e (i := 20) da_X1_extend_0 rfl, rfl⟩
theorem q_X1_extend_37 : decode M_X1_extend.2.1 37 = .ok (.iload_n 1, 1) ∧ 37 + 1 = 38 := ⟨dcAll_e (i := 21) da_X1_extend_0 rfl, rfl⟩
theorem q_X1_extend_38 : decode M_X1_extend.2.1 38 = .ok (.if_icmp .ge 16, 3) ∧ 38 + 3 = 41 ∧ ((38 : Nat) : Int) + 16 = ((54 : Nat) : Int) := ⟨dcAll_e (i := 22) da_X1_extend_0 rfl, rfl, rfl⟩
theorem q_X1_extend_41 : decode M_X1_extend.2.1 41 = .ok (.aload_n 0, 1) ∧ 41 + 1 = 42 := ⟨dcAll_e (i := 23) da_X1_extend_0 rfl, rfl⟩
theorem q_X1_extend_42 : decode M_X1_extend.2.1 42 = .ok (.getfield 11, 3) ∧ 42 + 3 = 45 := ⟨dcAll_e (i := 24) da_X1_extend_0 rfl, rfl⟩
theorem q_X1_extend_45 : decode M_X1_extend.2.1 45 = .ok (.iload_n 2, 1) ∧ 45 + 1 = 46 := ⟨dcAll_e (i := 25) da_X1_extend_0 rfl, rfl⟩
theorem q_X1_extend_46 : decode M_X1_extend.2.1 46 = .ok (.iconst 0, 1) ∧ 46 + 1 = 47 := ⟨dcAll_e (i := 26) da_X1_extend_0 rfl, rfl⟩
theorem q_X1_extend_47 : decode M_X1_extend.2.1 47 = .ok (.iastore, 1) ∧ 47 + 1 = 48 := ⟨dcAll_e (i := 27) da_X1_extend_0 rfl, rfl⟩
theorem q_X1_extend_48 : decode M_X1_extend.2.1 48 = .ok (.iinc 2 1, 3) ∧ 48 + 3 = 51 := ⟨dcAll_e (i := 28) da_X1_extend_0 rfl, rfl⟩
theorem q_X1_extend_51 : decode M_X1_extend.2.1 51 = .ok (.goto (-15), 3) ∧ 51 + 3 = 54 ∧ ((51 : Nat) : Int) + (-15) = ((36 : Nat) : Int) := ⟨dcAll_e (i := 29) da_X1_extend_0 rfl, rfl, rfl⟩
theorem q_X1_extend_54 : decode M_X1_extend.2.1 54 = .ok (.aload_n 0, 1) ∧ 54 + 1 = 55 := ⟨dcAll_e (i := 30) da_X1_extend_0 rfl, rfl⟩
theorem q_X1_extend_55 : decode M_X1_extend.2.1 55 = .ok (.aload_n 0, 1) ∧ 55 + 1 = 56 := ⟨dcAll_e (i := 31) da_X1_extend_0 rfl, rfl⟩
theorem q_X1_extend_56 : decode M_X1_extend.2.1 56 = .ok (.getfield 15, 3) ∧ 56 + 3 = 59 := ⟨dcAll_e (i := 32) da_X1_extend_0 rfl, rfl⟩
theorem q_X1_extend_59 : decode M_X1_extend.2.1 59 = .ok (.iload_n 1, 1) ∧ 59 + 1 = 60 := ⟨dcAll_e (i := 33) da_X1_extend_0 rfl, rfl⟩
theorem q_X1_extend_60 : decode M_X1_extend.2.1 60 = .ok (.invokestatic 19, 3) ∧ 60 + 3 = 63 := ⟨dcAll_e (i := 34) da_X1_extend_0 rfl, rfl⟩
theorem q_X1_extend_63 : decode M_X1_extend.2.1 63 = .ok (.putfield 15, 3) ∧ 63 + 3 = 66 := ⟨dcAll_e (i := 35) da_X1_extend_0 rfl, rfl⟩
theorem p_RX1_15 : en_Fp RX1 15 1 1 false .int := ⟨RX1, TX1, 3, tyX1, rfl, by decide, rfl, inT1 46 rfl rfl, uw_X1, tyX1_ok, nmX1, rfl, by decide +kernel⟩
theorem q_X1_extend_66 : decode M_X1_extend.2.1 66 = .ok (.return_, 1) ∧ 66 + 1 = 67 := ⟨dcAll_e (i := 36) da_X1_extend_0 rfl, rfl⟩
def dl_X1_trim_0 : List (Nat × Instr × Nat) := [(0, .aload_n 0, 1), (1, .getfield 15, 3), (4, .aload_n 0, 1), (5, .getfield 11, 3), (8, .arraylength, 1), (9, .invokestatic 31, 3), (12, .istore_n 2, 1), (13, .iload_n 2, 1), (14, .ifCond .le 20, 3), (17, .aload_n 0, 1), (18, .getfield 11, 3), (21, .iload_n 2, 1), (22, .iconst 1, 1), (23, .isub, 1), (24, .iaload, 1), (25, .ifCond .ne 9, 3), (28, .iinc 2 (-1), 3), (31, .goto (-18), 3), (34, .aload_n 0, 1), (35, .iload_n 2, 1), (36, .putfield 15, 3), (39, .aload_n 0, 1), (40, .iload_n 2, 1), (41, .ifCond .ne 7, 3), (44, .iconst 0, 1), (45, .goto 4, 3), (48, .iload_n 1, 1), (49, .putfield 34, 3), (52, .return_, 1)]
theorem da_X1_trim_0 : dcAll M_X1_trim.2.1 dl_X1_trim_0 = true := by decide +kernel
theorem q_X1_trim_0 : decode M_X1_trim.2.1 0 = .ok (.aload_n 0, 1) ∧ 0 + 1 = 1 := ⟨dcAll_e (i := 0) da_X1_trim_0 rfl, rfl⟩
theorem q_X1_trim_1 : decode M_X1_trim.2.1 1 = .ok (.getfield 15, 3) ∧ 1 + 3 = 4 := ⟨dcAll_e (i := 1) da_X1_trim_0 rfl, rfl⟩
theorem q_X1_trim_4 : decode M_X1_trim.2.1 4 = .ok (.aload_n 0, 1) ∧ 4 + 1 = 5 := ⟨dcAll_e (i := 2) da_X1_trim_0 rfl, rfl⟩
theorem q_X1_trim_5 : decode M_X1_trim.2.1 5 = .ok (.getfield 11, 3) ∧ 5 + 3 = 8 := ⟨dcAll_e (i := 3) da_X1_trim_0 rfl, rfl⟩
theorem q_X1_trim_8 : decode M_X1_trim.2.1 8 = .ok (.arraylength, 1) ∧ 8 + 1 = 9 := ⟨dcAll_e (i := 4) da_X1_trim_0 rfl, rfl⟩
theorem q_X1_trim_9 : decode M_X1_trim.2.1 9 = .ok (.invokestatic 31, 3) ∧ 9 + 3 = 12 := ⟨dcAll_e (i := 5) da_X1_trim_0 rfl, rfl⟩
theorem a_RX1_31 : Cond.methodLink RX1 31 Lib.Math.min.name ∈ en_tbl := by decide +kernel
theorem q_X1_trim_12 : decode M_X1_trim.2.1 12 = .ok (.istore_n 2, 1) ∧ 12 + 1 = 13 := ⟨dcAll_e (i := 6) da_X1_trim_0 rfl, rfl⟩
theorem q_X1_trim_13 : decode M_X1_trim.2.1 13 = .ok (.iload_n 2, 1) ∧ 13 + 1 = 14 := ⟨dcAll_e (i := 7) da_X1_trim_0 rfl, rfl⟩
theorem q_X1_trim_14 : decode M_X1_trim.2.1 14 = .ok (.ifCond .le 20, 3) ∧ 14 + 3 = 17 ∧ ((14 : Nat) : Int) + 20 = ((34 : Nat) : Int) := ⟨dcAll_e (i := 8) da_X1_trim_0 rfl, rfl, rfl⟩
theorem q_X1_trim_17 : decode M_X1_trim.2.1 17 = .ok (.aload_n 0, 1) ∧ 17 + 1 = 18 := ⟨dcAll_e (i := 9) da_X1_trim_0 rfl, rfl⟩
theorem q_X1_trim_18 : decode M_X1_trim.2.1 18 = .ok (.getfield 11, 3) ∧ 18 + 3 = 21 := ⟨dcAll_e (i := 10) da_X1_trim_0 rfl, rfl⟩
theorem q_X1_trim_21 : decode M_X1_trim.2.1 21 = .ok (.iload_n 2, 1) ∧ 21 + 1 = 22 := ⟨dcAll_e (i := 11) da_X1_trim_0 rfl, rfl⟩
theorem q_X1_trim_22 : decode M_X1_trim.2.1 22 = .ok (.iconst 1, 1) ∧ 22 + 1 = 23 := ⟨dcAll_e (i := 12) da_X1_trim_0 rfl, rfl⟩
theorem q_X1_trim_23 : decode M_X1_trim.2.1 23 = .ok (.isub, 1) ∧ 23 + 1 = 24 := ⟨dcAll_e (i := 13) da_X1_trim_0 rfl, rfl⟩
theorem q_X1_trim_24 : decode M_X1_trim.2.1 24 = .ok (.iaload, 1) ∧ 24 + 1 = 25 := ⟨dcAll_e (i := 14) da_X1_trim_0 rfl, rfl⟩
theorem q_X1_trim_25 : decode M_X1_trim.2.1 25 = .ok (.ifCond .ne 9, 3) ∧ 25 + 3 = 28 ∧ ((25 : Nat) : Int) + 9 = ((34 : Nat) : Int) := ⟨dcAll_e (i := 15) da_X1_trim_0 rfl, rfl, rfl⟩
theorem q_X1_trim_28 : decode M_X1_trim.2.1 28 = .ok (.iinc 2 (-1), 3) ∧ 28 + 3 = 31 := ⟨dcAll_e (i := 16) da_X1_trim_0 rfl, rfl⟩
theorem q_X1_trim_31 : decode M_X1_trim.2.1 31 = .ok (.goto (-18), 3) ∧ 31 + 3 = 34 ∧ ((31 : Nat) : Int) + (-18) = ((13 : Nat) : Int) := ⟨dcAll_e (i := 17) da_X1_trim_0 rfl, rfl, rfl⟩
theorem q_X1_trim_34 : decode M_X1_trim.2.1 34 = .ok (.aload_n 0, 1) ∧ 34 + 1 = 35 := ⟨dcAll_e (i := 18) da_X1_trim_0 rfl, rfl⟩
theorem q_X1_trim_35 : decode M_X1_trim.2.1 35 = .ok (.iload_n 2, 1) ∧ 35 + 1 = 36 := ⟨dcAll_e (i := 19) da_X1_trim_0 rfl, rfl⟩
theorem q_X1_trim_36 : decode M_X1_trim.2.1 36 = .ok (.putfield 15, 3) ∧ 36 + 3 = 39 := ⟨dcAll_e (i := 20) da_X1_trim_0 rfl, rfl⟩
theorem q_X1_trim_39 : decode M_X1_trim.2.1 39 = .ok (.aload_n 0, 1) ∧ 39 + 1 = 40 := ⟨dcAll_e (i := 21) da_X1_trim_0 rfl, rfl⟩
theorem q_X1_trim_40 : decode M_X1_trim.2.1 40 = .ok (.iload_n 2, 1) ∧ 40 + 1 = 41 := ⟨dcAll_e (i := 22) da_X1_trim_0 rfl, rfl⟩
theorem q_X1_trim_41 : decode M_X1_trim.2.1 41 = .ok (.ifCond .ne 7, 3) ∧ 41 + 3 = 44 ∧ ((41 : Nat) : Int) + 7 = ((48 : Nat) : Int) := ⟨dcAll_e (i := 23) da_X1_trim_0 rfl, rfl, rfl⟩
theorem q_X1_trim_44 : decode M_X1_trim.2.1 44 = .ok (.iconst 0, 1) ∧ 44 + 1 = 45 := ⟨dcAll_e (i := 24) da_X1_trim_0 rfl, rfl⟩
theorem q_X1_trim_45 : decode M_X1_trim.2.1 45 = .ok (.goto 4, 3) ∧ 45 + 3 = 48 ∧ ((45 : Nat) : Int) + 4 = ((49 : Nat) : Int) := ⟨dcAll_e (i := 25) da_X1_trim_0 rfl, rfl, rfl⟩
theorem q_X1_trim_48 : decode M_X1_trim.2.1 48 = .ok (.iload_n 1, 1) ∧ 48 + 1 = 49 := ⟨dcAll_e (i := 26) da_X1_trim_0 rfl, rfl⟩
theorem q_X1_trim_49 : decode M_X1_trim.2.1 49 = .ok (.putfield 34, 3) ∧ 49 + 3 = 52 := ⟨dcAll_e (i := 27) da_X1_trim_0 rfl, rfl⟩
theorem p_RX1_34 : en_Fp RX1 34 1 0 false .int := ⟨RX1, TX1, 3, tyX1, rfl, by decide, rfl, inT1 43 rfl rfl, uw_X1, tyX1_ok, nmX1, rfl, by decide +kernel⟩
theorem q_X1_trim_52 : decode M_X1_trim.2.1 52 = .ok (.return_, 1) ∧ 52 + 1 = 53 := ⟨dcAll_e (i := 28) da_X1_trim_0 rfl, rfl⟩
def dl_X1_clear_0 : List (Nat × Instr × Nat) := [(0, .aload_n 0, 1), (1, .iconst 0, 1), (2, .putfield 15, 3), (5, .aload_n 0, 1), (6, .iconst 0, 1), (7, .putfield 34, 3), (10, .return_, 1)]
theorem da_X1_clear_0 : dcAll M_X1_clear.2.1 dl_X1_clear_0 = true := by decide +kernel
theorem q_X1_clear_0 : decode M_X1_clear.2.1 0 = .ok (.aload_n 0, 1) ∧ 0 + 1 = 1 := ⟨dcAll_e (i := 0) da_X1_clear_0 rfl, rfl⟩
theorem q_X1_clear_1 : decode M_X1_clear.2.1 1 = .ok (.iconst 0, 1) ∧ 1 + 1 = 2 := ⟨dcAll_e (i := 1) da_X1_clear_0 rfl, rfl⟩
theorem q_X1_clear_2 : decode M_X1_clear.2.1 2 = .ok (.putfield 15, 3) ∧ 2 + 3 = 5 := ⟨dcAll_e (i := 2) da_X1_clear_0 rfl, rfl⟩
theorem q_X1_clear_5 : decode M_X1_clear.2.1 5 = .ok (.aload_n 0, 1) ∧ 5 + 1 = 6 := ⟨dcAll_e (i := 3) da_X1_clear_0 rfl, rfl⟩
theorem q_X1_clear_6 : decode M_X1_clear.2.1 6 = .ok (.iconst 0, 1) ∧ 6 + 1 = 7 := ⟨dcAll_e (i := 4) da_X1_clear_0 rfl, rfl⟩
theorem q_X1_clear_7 : decode M_X1_clear.2.1 7 = .ok (.putfield 34, 3) ∧ 7 + 3 = 10 := ⟨dcAll_e (i := 5) da_X1_clear_0 rfl, rfl⟩
theorem q_X1_clear_10 : decode M_X1_clear.2.1 10 = .ok (.return_, 1) ∧ 10 + 1 = 11 := ⟨dcAll_e (i := 6) da_X1_clear_0 rfl, rfl⟩
def dl_X1_copy_0 : List (Nat × Instr × Nat) := [(0, .aload_n 0, 1), (1, .aload_n 1, 1), (2, .getfield 15, 3), (5, .invokevirtual 37, 3), (8, .aload_n 1, 1), (9, .getfield 11, 3), (12, .iconst 0, 1), (13, .aload_n 0, 1), (14, .getfield 11, 3), (17, .iconst 0, 1), (18, .aload_n 1, 1), (19, .getfield 15, 3), (22, .invokestatic 41, 3), (25, .aload_n 0, 1), (26, .aload_n 1, 1), (27, .getfield 15, 3), (30, .putfield 15, 3), (33, .aload_n 0, 1), (34, .aload_n 1, 1), (35, .getfield 34, 3), (38, .putfield 34, 3), (41, .return_, 1)]
theorem da_X1_copy_0 : dcAll M_X1_copy.2.1 dl_X1_copy_0 = true := by decide +kernel
theorem q_X1_copy_0 : decode M_X1_copy.2.1 0 = .ok (.aload_n 0, 1) ∧ 0 + 1 = 1 := ⟨dcAll_e (i := 0) da_X1_copy_0 rfl, rfl⟩
theorem q_X1_copy_1 : decode M_X1_copy.2.1 1 = .ok (.aload_n 1, 1) ∧ 1 + 1 = 2 := ⟨dcAll_e (i := 1) da_X1_copy_0 rfl, rfl⟩
theorem q_X1_copy_2 : decode M_X1_copy.2.1 2 = .ok (.getfield 15, 3) ∧ 2 + 3 = 5 := ⟨dcAll_e (i := 2) da_X1_copy_0 rfl, rfl⟩
theorem q_X1_copy_5 : decode M_X1_copy.2.1 5 = .ok (.invokevirtual 37, 3) ∧ 5 + 3 = 8 := ⟨dcAll_e (i := 3) da_X1_copy_0 rfl, rfl⟩
theorem cd_X1_extend : Cond.code M_X1_extend.1 M_X1_extend.2.1 M_X1_extend.2.2.1 M_X1_extend.2.2.2.1 ∈ en_tbl := inT2 101 rfl rfl
theorem g_X1_copy_5 : en_C M_X1_copy M_X1_extend 37 1 := ⟨⟨inT2 98 rfl rfl, in_X1, cd_X1_extend⟩, ⟨by decide, by decide, by decide +kernel⟩, by decide, by decide⟩
theorem w_X1_extend : Cond.instanceMethod M_X1_extend.1 ∈ en_tbl ∧ Cond.selects M_X1_extend.1.cls M_X1_extend.1 M_X1_extend.1 ∈ en_tbl := ⟨inT2 99 rfl rfl, inT2 100 rfl rfl⟩
theorem q_X1_copy_8 : decode M_X1_copy.2.1 8 = .ok (.aload_n 1, 1) ∧ 8 + 1 = 9 := ⟨dcAll_e (i := 4) da_X1_copy_0 rfl, rfl⟩
theorem q_X1_copy_9 : decode M_X1_copy.2.1 9 = .ok (.getfield 11, 3) ∧ 9 + 3 = 12 := ⟨dcAll_e (i := 5) da_X1_copy_0 rfl, rfl⟩
theorem q_X1_copy_12 : decode M_X1_copy.2.1 12 = .ok (.iconst 0, 1) ∧ 12 + 1 = 13 := ⟨dcAll_e (i := 6) da_X1_copy_0 rfl, rfl⟩
theorem q_X1_copy_13 : decode M_X1_copy.2.1 13 = .ok (.aload_n 0, 1) ∧ 13 + 1 = 14 := ⟨dcAll_e (i := 7) da_X1_copy_0 rfl, rfl⟩
theorem q_X1_copy_14 : decode M_X1_copy.2.1 14 = .ok (.getfield 11, 3) ∧ 14 + 3 = 17 := ⟨dcAll_e (i := 8) da_X1_copy_0 rfl, rfl⟩
theorem q_X1_copy_17 : decode M_X1_copy.2.1 17 = .ok (.iconst 0, 1) ∧ 17 + 1 = 18 := ⟨dcAll_e (i := 9) da_X1_copy_0 rfl, rfl⟩
theorem q_X1_copy_18 : decode M_X1_copy.2.1 18 = .ok (.aload_n 1, 1) ∧ 18 + 1 = 19 := ⟨dcAll_e (i := 10) da_X1_copy_0 rfl, rfl⟩
theorem q_X1_copy_19 : decode M_X1_copy.2.1 19 = .ok (.getfield 15, 3) ∧ 19 + 3 = 22 := ⟨dcAll_e (i := 11) da_X1_copy_0 rfl, rfl⟩
theorem q_X1_copy_22 : decode M_X1_copy.2.1 22 = .ok (.invokestatic 41, 3) ∧ 22 + 3 = 25 := ⟨dcAll_e (i := 12) da_X1_copy_0 rfl, rfl⟩
theorem a_RX1_41 : Cond.methodLink RX1 41 arraycopyName ∈ en_tbl := by decide +kernel
theorem q_X1_copy_25 : decode M_X1_copy.2.1 25 = .ok (.aload_n 0, 1) ∧ 25 + 1 = 26 := ⟨dcAll_e (i := 13) da_X1_copy_0 rfl, rfl⟩
theorem q_X1_copy_26 : decode M_X1_copy.2.1 26 = .ok (.aload_n 1, 1) ∧ 26 + 1 = 27 := ⟨dcAll_e (i := 14) da_X1_copy_0 rfl, rfl⟩
theorem q_X1_copy_27 : decode M_X1_copy.2.1 27 = .ok (.getfield 15, 3) ∧ 27 + 3 = 30 := ⟨dcAll_e (i := 15) da_X1_copy_0 rfl, rfl⟩
theorem q_X1_copy_30 : decode M_X1_copy.2.1 30 = .ok (.putfield 15, 3) ∧ 30 + 3 = 33 := ⟨dcAll_e (i := 16) da_X1_copy_0 rfl, rfl⟩
theorem q_X1_copy_33 : decode M_X1_copy.2.1 33 = .ok (.aload_n 0, 1) ∧ 33 + 1 = 34 := ⟨dcAll_e (i := 17) da_X1_copy_0 rfl, rfl⟩
theorem q_X1_copy_34 : decode M_X1_copy.2.1 34 = .ok (.aload_n 1, 1) ∧ 34 + 1 = 35 := ⟨dcAll_e (i := 18) da_X1_copy_0 rfl, rfl⟩
theorem q_X1_copy_35 : decode M_X1_copy.2.1 35 = .ok (.getfield 34, 3) ∧ 35 + 3 = 38 := ⟨dcAll_e (i := 19) da_X1_copy_0 rfl, rfl⟩
theorem f_RX1_34 : en_F RX1 34 1 0 := ⟨RX1, TX1, 3, rfl, by decide, rfl, inT1 43 rfl rfl, uw_X1⟩
theorem q_X1_copy_38 : decode M_X1_copy.2.1 38 = .ok (.putfield 34, 3) ∧ 38 + 3 = 41 := ⟨dcAll_e (i := 20) da_X1_copy_0 rfl, rfl⟩
theorem q_X1_copy_41 : decode M_X1_copy.2.1 41 = .ok (.return_, 1) ∧ 41 + 1 = 42 := ⟨dcAll_e (i := 21) da_X1_copy_0 rfl, rfl⟩
def dl_X1_setLong_0 : List (Nat × Instr × Nat) := [(0, .lload_n 1, 1), (1, .lconst 0, 1), (2, .lcmp, 1), (3, .ifCond .ge 7, 3), (6, .lload_n 1, 1), (7, .goto 5, 3), (10, .lload_n 1, 1), (11, .lneg, 1), (12, .lstore_n 3, 1), (13, .aload_n 0, 1), (14, .invokevirtual 47, 3), (17, .aload_n 0, 1), (18, .iconst 3, 1), (19, .invokevirtual 37, 3), (22, .iconst 0, 1), (23, .istore 5, 2), (25, .iload 5, 2), (27, .iconst 3, 1), (28, .if_icmp .ge 29, 3), (31, .aload_n 0, 1), (32, .getfield 11, 3), (35, .iload 5, 2), (37, .lload_n 3, 1), (38, .ldc2_w 50, 3), (41, .lrem, 1), (42, .lneg, 1), (43, .l2i, 1), (44, .iastore, 1), (45, .lload_n 3, 1), (46, .ldc2_w 50, 3), (49, .ldiv, 1), (50, .lstore_n 3, 1), (51, .iinc 5 1, 3), (54, .goto (-29), 3), (57, .aload_n 0, 1), (58, .lload_n 1, 1), (59, .lconst 0, 1), (60, .lcmp, 1), (61, .ifCond .ge 7, 3), (64, .iconst (-1), 1)]
theorem da_X1_setLong_0 : dcAll M_X1_setLong.2.1 dl_X1_setLong_0 = true := by decide +kernel
def dl_X1_setLong_1 : List (Nat × Instr × Nat) := [(65, .goto 4, 3), (68, .iconst 1, 1), (69, .invokevirtual 52, 3), (72, .return_, 1)]
theorem da_X1_setLong_1 : dcAll M_X1_setLong.2.1 dl_X1_setLong_1 = true := by decide +kernel
theorem q_X1_setLong_0 : decode M_X1_setLong.2.1 0 = .ok (.lload_n 1, 1) ∧ 0 + 1 = 1 := ⟨dcAll_e (i := 0) da_X1_setLong_0 rfl, rfl⟩
theorem q_X1_setLong_1 : decode M_X1_setLong.2.1 1 = .ok (.lconst 0, 1) ∧ 1 + 1 = 2 := ⟨dcAll_e (i := 1) da_X1_setLong_0 rfl, rfl⟩
theorem q_X1_setLong_2 : decode M_X1_setLong.2.1 2 = .ok (.lcmp, 1) ∧ 2 + 1 = 3 := ⟨dcAll_e (i := 2) da_X1_setLong_0 rfl, rfl⟩
theorem q_X1_setLong_3 : decode M_X1_setLong.2.1 3 = .ok (.ifCond .ge 7, 3) ∧ 3 + 3 = 6 ∧ ((3 : Nat) : Int) + 7 = ((10 : Nat) : Int) := ⟨dcAll_e (i := 3) da_X1_setLong_0 rfl, rfl, rfl⟩
theorem q_X1_setLong_6 : decode M_X1_setLong.2.1 6 = .ok (.lload_n 1, 1) ∧ 6 + 1 = 7 := ⟨dcAll_e (i := 4) da_X1_setLong_0 rfl, rfl⟩
theorem q_X1_setLong_7 : decode M_X1_setLong.2.1 7 = .ok (.goto 5, 3) ∧ 7 + 3 = 10 ∧ ((7 : Nat) : Int) + 5 = ((12 : Nat) : Int) := ⟨dcAll_e (i := 5) da_X1_setLong_0 rfl, rfl, rfl⟩
theorem q_X1_setLong_10 : decode M_X1_setLong.2.1 10 = .ok (.lload_n 1, 1) ∧ 10 + 1 = 11 := ⟨dcAll_e (i := 6) da_X1_setLong_0 rfl, rfl⟩
theorem q_X1_setLong_11 : decode M_X1_setLong.2.1 11 = .ok (.lneg, 1) ∧ 11 + 1 = 12 := ⟨dcAll_e (i := 7) da_X1_setLong_0 rfl, rfl⟩
theorem q_X1_setLong_12 : decode M_X1_setLong.2.1 12 = .ok (.lstore_n 3, 1) ∧ 12 + 1 = 13 := ⟨dcAll_e (i := 8) da_X1_setLong_0 rfl, rfl⟩
theorem q_X1_setLong_13 : decode M_X1_setLong.2.1 13 = .ok (.aload_n 0, 1) ∧ 13 + 1 = 14 := ⟨dcAll_e (i := 9) da_X1_setLong_0 rfl, rfl⟩
theorem q_X1_setLong_14 : decode M_X1_setLong.2.1 14 = .ok (.invokevirtual 47, 3) ∧ 14 + 3 = 17 := ⟨dcAll_e (i := 10) da_X1_setLong_0 rfl, rfl⟩
theorem cd_X1_clear : Cond.code M_X1_clear.1 M_X1_clear.2.1 M_X1_clear.2.2.1 M_X1_clear.2.2.2.1 ∈ en_tbl := inT2 97 rfl rfl
theorem g_X1_setLong_14 : en_C M_X1_setLong M_X1_clear 47 0 := ⟨⟨inT2 94 rfl rfl, in_X1, cd_X1_clear⟩, ⟨by decide, by decide, by decide +kernel⟩, by decide, by decide⟩
theorem w_X1_clear : Cond.instanceMethod M_X1_clear.1 ∈ en_tbl ∧ Cond.selects M_X1_clear.1.cls M_X1_clear.1 M_X1_clear.1 ∈ en_tbl := ⟨inT2 95 rfl rfl, inT2 96 rfl rfl⟩
theorem q_X1_setLong_17 : decode M_X1_setLong.2.1 17 = .ok (.aload_n 0, 1) ∧ 17 + 1 = 18 := ⟨dcAll_e (i := 11) da_X1_setLong_0 rfl, rfl⟩
theorem q_X1_setLong_18 : decode M_X1_setLong.2.1 18 = .ok (.iconst 3, 1) ∧ 18 + 1 = 19 := ⟨dcAll_e (i := 12) da_X1_setLong_0 rfl, rfl⟩
theorem q_X1_setLong_19 : decode M_X1_setLong.2.1 19 = .ok (.invokevirtual 37, 3) ∧ 19 + 3 = 22 := ⟨dcAll_e (i := 13) da_X1_setLong_0 rfl, rfl⟩
theorem g_X1_setLong_19 : en_C M_X1_setLong M_X1_extend 37 1 := ⟨⟨inT2 98 rfl rfl, in_X1, cd_X1_extend⟩, ⟨by decide, by decide, by decide +kernel⟩, by decide, by decide⟩
theorem q_X1_setLong_22 : decode M_X1_setLong.2.1 22 = .ok (.iconst 0, 1) ∧ 22 + 1 = 23 := ⟨dcAll_e (i := 14) da_X1_setLong_0 rfl, rfl⟩
theorem q_X1_setLong_23 : decode M_X1_setLong.2.1 23 = .ok (.istore 5, 2) ∧ 23 + 2 = 25 := ⟨dcAll_e (i := 15) da_X1_setLong_0 rfl, rfl⟩
theorem q_X1_setLong_25 : decode M_X1_setLong.2.1 25 = .ok (.iload 5, 2) ∧ 25 + 2 = 27 := ⟨dcAll_e (i := 16) da_X1_setLong_0 rfl, rfl⟩
theorem q_X1_setLong_27 : decode M_X1_setLong.2.1 27 = .ok (.iconst 3, 1) ∧ 27 + 1 = 28 := ⟨dcAll_e (i := 17) da_X1_setLong_0 rfl, rfl⟩
theorem q_X1_setLong_28 : decode M_X1_setLong.2.1 28 = .ok (.if_icmp .ge 29, 3) ∧ 28 + 3 = 31 ∧ ((28 : Nat) : Int) + 29 = ((57 : Nat) : Int) := ⟨dcAll_e (i := 18) da_X1_setLong_0 rfl, rfl, rfl⟩
theorem q_X1_setLong_31 : decode M_X1_setLong.2.1 31 = .ok (.aload_n 0, 1) ∧ 31 + 1 = 32 := ⟨dcAll_e (i := 19) da_X1_setLong_0 rfl, rfl⟩
theorem q_X1_setLong_32 : decode M_X1_setLong.2.1 32 = .ok (.getfield 11, 3) ∧ 32 + 3 = 35 := ⟨dcAll_e (i := 20) da_X1_setLong_0 rfl, rfl⟩
theorem q_X1_setLong_35 : decode M_X1_setLong.2.1 35 = .ok (.iload 5, 2) ∧ 35 + 2 = 37 := ⟨dcAll_e (i := 21) da_X1_setLong_0 rfl, rfl⟩
theorem q_X1_setLong_37 : decode M_X1_setLong.2.1 37 = .ok (.lload_n 3, 1) ∧ 37 + 1 = 38 := ⟨dcAll_e (i := 22) da_X1_setLong_0 rfl, rfl⟩
theorem q_X1_setLong_38 : decode M_X1_setLong.2.1 38 = .ok (.ldc2_w 50, 3) ∧ 38 + 3 = 41 := ⟨dcAll_e (i := 23) da_X1_setLong_0 rfl, rfl⟩
theorem k_RX1_50 : Cond.constantLong RX1 50 (lN 1000000000) ∈ en_tbl := by decide +kernel
theorem q_X1_setLong_41 : decode M_X1_setLong.2.1 41 = .ok (.lrem, 1) ∧ 41 + 1 = 42 := ⟨dcAll_e (i := 24) da_X1_setLong_0 rfl, rfl⟩
theorem q_X1_setLong_42 : decode M_X1_setLong.2.1 42 = .ok (.lneg, 1) ∧ 42 + 1 = 43 := ⟨dcAll_e (i := 25) da_X1_setLong_0 rfl, rfl⟩
theorem q_X1_setLong_43 : decode M_X1_setLong.2.1 43 = .ok (.l2i, 1) ∧ 43 + 1 = 44 := ⟨dcAll_e (i := 26) da_X1_setLong_0 rfl, rfl⟩
theorem q_X1_setLong_44 : decode M_X1_setLong.2.1 44 = .ok (.iastore, 1) ∧ 44 + 1 = 45 := ⟨dcAll_e (i := 27) da_X1_setLong_0 rfl, rfl⟩
theorem q_X1_setLong_45 : decode M_X1_setLong.2.1 45 = .ok (.lload_n 3, 1) ∧ 45 + 1 = 46 := ⟨dcAll_e (i := 28) da_X1_setLong_0 rfl, rfl⟩
theorem q_X1_setLong_46 : decode M_X1_setLong.2.1 46 = .ok (.ldc2_w 50, 3) ∧ 46 + 3 = 49 := ⟨dcAll_e (i := 29) da_X1_setLong_0 rfl, rfl⟩
theorem q_X1_setLong_49 : decode M_X1_setLong.2.1 49 = .ok (.ldiv, 1) ∧ 49 + 1 = 50 := ⟨dcAll_e (i := 30) da_X1_setLong_0 rfl, rfl⟩
theorem q_X1_setLong_50 : decode M_X1_setLong.2.1 50 = .ok (.lstore_n 3, 1) ∧ 50 + 1 = 51 := ⟨dcAll_e (i := 31) da_X1_setLong_0 rfl, rfl⟩
theorem q_X1_setLong_51 : decode M_X1_setLong.2.1 51 = .ok (.iinc 5 1, 3) ∧ 51 + 3 = 54 := ⟨dcAll_e (i := 32) da_X1_setLong_0 rfl, rfl⟩
theorem q_X1_setLong_54 : decode M_X1_setLong.2.1 54 = .ok (.goto (-29), 3) ∧ 54 + 3 = 57 ∧ ((54 : Nat) : Int) + (-29) = ((25 : Nat) : Int) := ⟨dcAll_e (i := 33) da_X1_setLong_0 rfl, rfl, rfl⟩
theorem q_X1_setLong_57 : decode M_X1_setLong.2.1 57 = .ok (.aload_n 0, 1) ∧ 57 + 1 = 58 := ⟨dcAll_e (i := 34) da_X1_setLong_0 rfl, rfl⟩
theorem q_X1_setLong_58 : decode M_X1_setLong.2.1 58 = .ok (.lload_n 1, 1) ∧ 58 + 1 = 59 := ⟨dcAll_e (i := 35) da_X1_setLong_0 rfl, rfl⟩
theorem q_X1_setLong_59 : decode M_X1_setLong.2.1 59 = .ok (.lconst 0, 1) ∧ 59 + 1 = 60 := ⟨dcAll_e (i := 36) da_X1_setLong_0 rfl, rfl⟩
theorem q_X1_setLong_60 : decode M_X1_setLong.2.1 60 = .ok (.lcmp, 1) ∧ 60 + 1 = 61 := ⟨dcAll_e (i := 37) da_X1_setLong_0 rfl, rfl⟩
theorem q_X1_setLong_61 : decode M_X1_setLong.2.1 61 = .ok (.ifCond .ge 7, 3) ∧ 61 + 3 = 64 ∧ ((61 : Nat) : Int) + 7 = ((68 : Nat) : Int) := ⟨dcAll_e (i := 38) da_X1_setLong_0 rfl, rfl, rfl⟩
theorem q_X1_setLong_64 : decode M_X1_setLong.2.1 64 = .ok (.iconst (-1), 1) ∧ 64 + 1 = 65 := ⟨dcAll_e (i := 39) da_X1_setLong_0 rfl, rfl⟩
theorem q_X1_setLong_65 : decode M_X1_setLong.2.1 65 = .ok (.goto 4, 3) ∧ 65 + 3 = 68 ∧ ((65 : Nat) : Int) + 4 = ((69 : Nat) : Int) := ⟨dcAll_e (i := 0) da_X1_setLong_1 rfl, rfl, rfl⟩
theorem q_X1_setLong_68 : decode M_X1_setLong.2.1 68 = .ok (.iconst 1, 1) ∧ 68 + 1 = 69 := ⟨dcAll_e (i := 1) da_X1_setLong_1 rfl, rfl⟩
theorem q_X1_setLong_69 : decode M_X1_setLong.2.1 69 = .ok (.invokevirtual 52, 3) ∧ 69 + 3 = 72 := ⟨dcAll_e (i := 2) da_X1_setLong_1 rfl, rfl⟩
theorem cd_X1_trim : Cond.code M_X1_trim.1 M_X1_trim.2.1 M_X1_trim.2.2.1 M_X1_trim.2.2.2.1 ∈ en_tbl := inT2 125 rfl rfl
theorem g_X1_setLong_69 : en_C M_X1_setLong M_X1_trim 52 1 := ⟨⟨inT2 122 rfl rfl, in_X1, cd_X1_trim⟩, ⟨by decide, by decide, by decide +kernel⟩, by decide, by decide⟩
theorem w_X1_trim : Cond.instanceMethod M_X1_trim.1 ∈ en_tbl ∧ Cond.selects M_X1_trim.1.cls M_X1_trim.1 M_X1_trim.1 ∈ en_tbl := ⟨inT2 123 rfl rfl, inT2 124 rfl rfl⟩
theorem q_X1_setLong_72 : decode M_X1_setLong.2.1 72 = .ok (.return_, 1) ∧ 72 + 1 = 73 := ⟨dcAll_e (i := 3) da_X1_setLong_1 rfl, rfl⟩
def dl_X1_clamped_0 : List (Nat × Instr × Nat) := [(0, .aload_n 0, 1), (1, .getfield 15, 3), (4, .iconst 3, 1), (5, .if_icmp .gt 12, 3), (8, .aload_n 0, 1), (9, .iconst 2, 1), (10, .invokevirtual 55, 3), (13, .iconst 4, 1), (14, .if_icmp .le 20, 3), (17, .aload_n 0, 1), (18, .getfield 34, 3), (21, .ifCond .ge 9, 3), (24, .ldc2_w 59, 3), (27, .goto 6, 3), (30, .ldc2_w 61, 3), (33, .lreturn, 1), (34, .aload_n 0, 1), (35, .iconst 2, 1), (36, .invokevirtual 55, 3), (39, .i2l, 1), (40, .ldc2_w 50, 3), (43, .lmul, 1), (44, .aload_n 0, 1), (45, .iconst 1, 1), (46, .invokevirtual 55, 3), (49, .i2l, 1), (50, .ladd, 1), (51, .lstore_n 1, 1), (52, .aload_n 0, 1), (53, .getfield 34, 3), (56, .i2l, 1), (57, .lload_n 1, 1), (58, .ldc2_w 50, 3), (61, .lmul, 1), (62, .aload_n 0, 1), (63, .iconst 0, 1), (64, .invokevirtual 55, 3), (67, .i2l, 1), (68, .ladd, 1), (69, .ldc2_w 61, 3)]
theorem da_X1_clamped_0 : dcAll M_X1_clamped.2.1 dl_X1_clamped_0 = true := by decide +kernel
def dl_X1_clamped_1 : List (Nat × Instr × Nat) := [(72, .invokestatic 63, 3), (75, .lmul, 1), (76, .lreturn, 1)]
theorem da_X1_clamped_1 : dcAll M_X1_clamped.2.1 dl_X1_clamped_1 = true := by decide +kernel
theorem q_X1_clamped_0 : decode M_X1_clamped.2.1 0 = .ok (.aload_n 0, 1) ∧ 0 + 1 = 1 := ⟨dcAll_e (i := 0) da_X1_clamped_0 rfl, rfl⟩
theorem q_X1_clamped_1 : decode M_X1_clamped.2.1 1 = .ok (.getfield 15, 3) ∧ 1 + 3 = 4 := ⟨dcAll_e (i := 1) da_X1_clamped_0 rfl, rfl⟩
theorem q_X1_clamped_4 : decode M_X1_clamped.2.1 4 = .ok (.iconst 3, 1) ∧ 4 + 1 = 5 := ⟨dcAll_e (i := 2) da_X1_clamped_0 rfl, rfl⟩
theorem q_X1_clamped_5 : decode M_X1_clamped.2.1 5 = .ok (.if_icmp .gt 12, 3) ∧ 5 + 3 = 8 ∧ ((5 : Nat) : Int) + 12 = ((17 : Nat) : Int) := ⟨dcAll_e (i := 3) da_X1_clamped_0 rfl, rfl, rfl⟩
theorem q_X1_clamped_8 : decode M_X1_clamped.2.1 8 = .ok (.aload_n 0, 1) ∧ 8 + 1 = 9 := ⟨dcAll_e (i := 4) da_X1_clamped_0 rfl, rfl⟩
theorem q_X1_clamped_9 : decode M_X1_clamped.2.1 9 = .ok (.iconst 2, 1) ∧ 9 + 1 = 10 := ⟨dcAll_e (i := 5) da_X1_clamped_0 rfl, rfl⟩
theorem q_X1_clamped_10 : decode M_X1_clamped.2.1 10 = .ok (.invokevirtual 55, 3) ∧ 10 + 3 = 13 := ⟨dcAll_e (i := 6) da_X1_clamped_0 rfl, rfl⟩
theorem cd_X1_limbAt : Cond.code M_X1_limbAt.1 M_X1_limbAt.2.1 M_X1_limbAt.2.2.1 M_X1_limbAt.2.2.2.1 ∈ en_tbl := inT2 172 rfl rfl
theorem g_X1_clamped_10 : en_C M_X1_clamped M_X1_limbAt 55 1 := ⟨⟨inT3 75 rfl rfl, in_X1, cd_X1_limbAt⟩, ⟨by decide, by decide, by decide +kernel⟩, by decide, by decide⟩
theorem w_X1_limbAt : Cond.instanceMethod M_X1_limbAt.1 ∈ en_tbl ∧ Cond.selects M_X1_limbAt.1.cls M_X1_limbAt.1 M_X1_limbAt.1 ∈ en_tbl := ⟨inT2 170 rfl rfl, inT2 171 rfl rfl⟩
theorem q_X1_clamped_13 : decode M_X1_clamped.2.1 13 = .ok (.iconst 4, 1) ∧ 13 + 1 = 14 := ⟨dcAll_e (i := 7) da_X1_clamped_0 rfl, rfl⟩
theorem q_X1_clamped_14 : decode M_X1_clamped.2.1 14 = .ok (.if_icmp .le 20, 3) ∧ 14 + 3 = 17 ∧ ((14 : Nat) : Int) + 20 = ((34 : Nat) : Int) := ⟨dcAll_e (i := 8) da_X1_clamped_0 rfl, rfl, rfl⟩
theorem q_X1_clamped_17 : decode M_X1_clamped.2.1 17 = .ok (.aload_n 0, 1) ∧ 17 + 1 = 18 := ⟨dcAll_e (i := 9) da_X1_clamped_0 rfl, rfl⟩
theorem q_X1_clamped_18 : decode M_X1_clamped.2.1 18 = .ok (.getfield 34, 3) ∧ 18 + 3 = 21 := ⟨dcAll_e (i := 10) da_X1_clamped_0 rfl, rfl⟩
theorem q_X1_clamped_21 : decode M_X1_clamped.2.1 21 = .ok (.ifCond .ge 9, 3) ∧ 21 + 3 = 24 ∧ ((21 : Nat) : Int) + 9 = ((30 : Nat) : Int) := ⟨dcAll_e (i := 11) da_X1_clamped_0 rfl, rfl, rfl⟩
theorem q_X1_clamped_24 : decode M_X1_clamped.2.1 24 = .ok (.ldc2_w 59, 3) ∧ 24 + 3 = 27 := ⟨dcAll_e (i := 12) da_X1_clamped_0 rfl, rfl⟩
theorem k_RX1_59 : Cond.constantLong RX1 59 (-4611686018427387904) ∈ en_tbl := by decide +kernel
theorem q_X1_clamped_27 : decode M_X1_clamped.2.1 27 = .ok (.goto 6, 3) ∧ 27 + 3 = 30 ∧ ((27 : Nat) : Int) + 6 = ((33 : Nat) : Int) := ⟨dcAll_e (i := 13) da_X1_clamped_0 rfl, rfl, rfl⟩
theorem q_X1_clamped_30 : decode M_X1_clamped.2.1 30 = .ok (.ldc2_w 61, 3) ∧ 30 + 3 = 33 := ⟨dcAll_e (i := 14) da_X1_clamped_0 rfl, rfl⟩
theorem k_RX1_61 : Cond.constantLong RX1 61 (lN 4611686018427387904) ∈ en_tbl := by decide +kernel
theorem q_X1_clamped_33 : decode M_X1_clamped.2.1 33 = .ok (.lreturn, 1) ∧ 33 + 1 = 34 := ⟨dcAll_e (i := 15) da_X1_clamped_0 rfl, rfl⟩
theorem q_X1_clamped_34 : decode M_X1_clamped.2.1 34 = .ok (.aload_n 0, 1) ∧ 34 + 1 = 35 := ⟨dcAll_e (i := 16) da_X1_clamped_0 rfl, rfl⟩
theorem q_X1_clamped_35 : decode M_X1_clamped.2.1 35 = .ok (.iconst 2, 1) ∧ 35 + 1 = 36 := ⟨dcAll_e (i := 17) da_X1_clamped_0 rfl, rfl⟩
theorem q_X1_clamped_36 : decode M_X1_clamped.2.1 36 = .ok (.invokevirtual 55, 3) ∧ 36 + 3 = 39 := ⟨dcAll_e (i := 18) da_X1_clamped_0 rfl, rfl⟩
theorem g_X1_clamped_36 : en_C M_X1_clamped M_X1_limbAt 55 1 := ⟨⟨inT3 75 rfl rfl, in_X1, cd_X1_limbAt⟩, ⟨by decide, by decide, by decide +kernel⟩, by decide, by decide⟩
theorem q_X1_clamped_39 : decode M_X1_clamped.2.1 39 = .ok (.i2l, 1) ∧ 39 + 1 = 40 := ⟨dcAll_e (i := 19) da_X1_clamped_0 rfl, rfl⟩
theorem q_X1_clamped_40 : decode M_X1_clamped.2.1 40 = .ok (.ldc2_w 50, 3) ∧ 40 + 3 = 43 := ⟨dcAll_e (i := 20) da_X1_clamped_0 rfl, rfl⟩
theorem q_X1_clamped_43 : decode M_X1_clamped.2.1 43 = .ok (.lmul, 1) ∧ 43 + 1 = 44 := ⟨dcAll_e (i := 21) da_X1_clamped_0 rfl, rfl⟩
theorem q_X1_clamped_44 : decode M_X1_clamped.2.1 44 = .ok (.aload_n 0, 1) ∧ 44 + 1 = 45 := ⟨dcAll_e (i := 22) da_X1_clamped_0 rfl, rfl⟩
theorem q_X1_clamped_45 : decode M_X1_clamped.2.1 45 = .ok (.iconst 1, 1) ∧ 45 + 1 = 46 := ⟨dcAll_e (i := 23) da_X1_clamped_0 rfl, rfl⟩
theorem q_X1_clamped_46 : decode M_X1_clamped.2.1 46 = .ok (.invokevirtual 55, 3) ∧ 46 + 3 = 49 := ⟨dcAll_e (i := 24) da_X1_clamped_0 rfl, rfl⟩
theorem g_X1_clamped_46 : en_C M_X1_clamped M_X1_limbAt 55 1 := ⟨⟨inT3 75 rfl rfl, in_X1, cd_X1_limbAt⟩, ⟨by decide, by decide, by decide +kernel⟩, by decide, by decide⟩
theorem q_X1_clamped_49 : decode M_X1_clamped.2.1 49 = .ok (.i2l, 1) ∧ 49 + 1 = 50 := ⟨dcAll_e (i := 25) da_X1_clamped_0 rfl, rfl⟩
theorem q_X1_clamped_50 : decode M_X1_clamped.2.1 50 = .ok (.ladd, 1) ∧ 50 + 1 = 51 := ⟨dcAll_e (i := 26) da_X1_clamped_0 rfl, rfl⟩
theorem q_X1_clamped_51 : decode M_X1_clamped.2.1 51 = .ok (.lstore_n 1, 1) ∧ 51 + 1 = 52 := ⟨dcAll_e (i := 27) da_X1_clamped_0 rfl, rfl⟩
theorem q_X1_clamped_52 : decode M_X1_clamped.2.1 52 = .ok (.aload_n 0, 1) ∧ 52 + 1 = 53 := ⟨dcAll_e (i := 28) da_X1_clamped_0 rfl, rfl⟩
theorem q_X1_clamped_53 : decode M_X1_clamped.2.1 53 = .ok (.getfield 34, 3) ∧ 53 + 3 = 56 := ⟨dcAll_e (i := 29) da_X1_clamped_0 rfl, rfl⟩
theorem q_X1_clamped_56 : decode M_X1_clamped.2.1 56 = .ok (.i2l, 1) ∧ 56 + 1 = 57 := ⟨dcAll_e (i := 30) da_X1_clamped_0 rfl, rfl⟩
theorem q_X1_clamped_57 : decode M_X1_clamped.2.1 57 = .ok (.lload_n 1, 1) ∧ 57 + 1 = 58 := ⟨dcAll_e (i := 31) da_X1_clamped_0 rfl, rfl⟩
theorem q_X1_clamped_58 : decode M_X1_clamped.2.1 58 = .ok (.ldc2_w 50, 3) ∧ 58 + 3 = 61 := ⟨dcAll_e (i := 32) da_X1_clamped_0 rfl, rfl⟩
theorem q_X1_clamped_61 : decode M_X1_clamped.2.1 61 = .ok (.lmul, 1) ∧ 61 + 1 = 62 := ⟨dcAll_e (i := 33) da_X1_clamped_0 rfl, rfl⟩
theorem q_X1_clamped_62 : decode M_X1_clamped.2.1 62 = .ok (.aload_n 0, 1) ∧ 62 + 1 = 63 := ⟨dcAll_e (i := 34) da_X1_clamped_0 rfl, rfl⟩
theorem q_X1_clamped_63 : decode M_X1_clamped.2.1 63 = .ok (.iconst 0, 1) ∧ 63 + 1 = 64 := ⟨dcAll_e (i := 35) da_X1_clamped_0 rfl, rfl⟩
theorem q_X1_clamped_64 : decode M_X1_clamped.2.1 64 = .ok (.invokevirtual 55, 3) ∧ 64 + 3 = 67 := ⟨dcAll_e (i := 36) da_X1_clamped_0 rfl, rfl⟩
theorem g_X1_clamped_64 : en_C M_X1_clamped M_X1_limbAt 55 1 := ⟨⟨inT3 75 rfl rfl, in_X1, cd_X1_limbAt⟩, ⟨by decide, by decide, by decide +kernel⟩, by decide, by decide⟩
theorem q_X1_clamped_67 : decode M_X1_clamped.2.1 67 = .ok (.i2l, 1) ∧ 67 + 1 = 68 := ⟨dcAll_e (i := 37) da_X1_clamped_0 rfl, rfl⟩
theorem q_X1_clamped_68 : decode M_X1_clamped.2.1 68 = .ok (.ladd, 1) ∧ 68 + 1 = 69 := ⟨dcAll_e (i := 38) da_X1_clamped_0 rfl, rfl⟩
theorem q_X1_clamped_69 : decode M_X1_clamped.2.1 69 = .ok (.ldc2_w 61, 3) ∧ 69 + 3 = 72 := ⟨dcAll_e (i := 39) da_X1_clamped_0 rfl, rfl⟩
theorem q_X1_clamped_72 : decode M_X1_clamped.2.1 72 = .ok (.invokestatic 63, 3) ∧ 72 + 3 = 75 := ⟨dcAll_e (i := 0) da_X1_clamped_1 rfl, rfl⟩
theorem a_RX1_63 : Cond.methodLink RX1 63 Lib.MathLoose.min_long.x ∈ en_tbl := by decide +kernel
theorem q_X1_clamped_75 : decode M_X1_clamped.2.1 75 = .ok (.lmul, 1) ∧ 75 + 1 = 76 := ⟨dcAll_e (i := 1) da_X1_clamped_1 rfl, rfl⟩
theorem q_X1_clamped_76 : decode M_X1_clamped.2.1 76 = .ok (.lreturn, 1) ∧ 76 + 1 = 77 := ⟨dcAll_e (i := 2) da_X1_clamped_1 rfl, rfl⟩
def dl_X1_digitCount_0 : List (Nat × Instr × Nat) := [(0, .aload_n 0, 1), (1, .aload_n 0, 1), (2, .getfield 15, 3), (5, .iconst 1, 1), (6, .isub, 1), (7, .invokevirtual 55, 3), (10, .istore_n 1, 1), (11, .iconst 0, 1), (12, .istore_n 2, 1), (13, .iload_n 2, 1), (14, .getstatic 66, 3), (17, .arraylength, 1), (18, .if_icmp .ge 18, 3), (21, .iload_n 1, 1), (22, .getstatic 66, 3), (25, .iload_n 2, 1), (26, .iaload, 1), (27, .if_icmp .lt 9, 3), (30, .iinc 2 1, 3), (33, .goto (-20), 3), (36, .aload_n 0, 1), (37, .getfield 15, 3), (40, .ifCond .gt 7, 3), (43, .iconst 0, 1), (44, .goto 14, 3), (47, .aload_n 0, 1), (48, .getfield 15, 3), (51, .iconst 1, 1), (52, .isub, 1), (53, .bipush 9, 2), (55, .imul, 1), (56, .iload_n 2, 1), (57, .iadd, 1), (58, .ireturn, 1)]
theorem da_X1_digitCount_0 : dcAll M_X1_digitCount.2.1 dl_X1_digitCount_0 = true := by decide +kernel
theorem q_X1_digitCount_0 : decode M_X1_digitCount.2.1 0 = .ok (.aload_n 0, 1) ∧ 0 + 1 = 1 := ⟨dcAll_e (i := 0) da_X1_digitCount_0 rfl, rfl⟩
theorem q_X1_digitCount_1 : decode M_X1_digitCount.2.1 1 = .ok (.aload_n 0, 1) ∧ 1 + 1 = 2 := ⟨dcAll_e (i := 1) da_X1_digitCount_0 rfl, rfl⟩
theorem q_X1_digitCount_2 : decode M_X1_digitCount.2.1 2 = .ok (.getfield 15, 3) ∧ 2 + 3 = 5 := ⟨dcAll_e (i := 2) da_X1_digitCount_0 rfl, rfl⟩
theorem q_X1_digitCount_5 : decode M_X1_digitCount.2.1 5 = .ok (.iconst 1, 1) ∧ 5 + 1 = 6 := ⟨dcAll_e (i := 3) da_X1_digitCount_0 rfl, rfl⟩
theorem q_X1_digitCount_6 : decode M_X1_digitCount.2.1 6 = .ok (.isub, 1) ∧ 6 + 1 = 7 := ⟨dcAll_e (i := 4) da_X1_digitCount_0 rfl, rfl⟩
theorem q_X1_digitCount_7 : decode M_X1_digitCount.2.1 7 = .ok (.invokevirtual 55, 3) ∧ 7 + 3 = 10 := ⟨dcAll_e (i := 5) da_X1_digitCount_0 rfl, rfl⟩
theorem g_X1_digitCount_7 : en_C M_X1_digitCount M_X1_limbAt 55 1 := ⟨⟨inT3 75 rfl rfl, in_X1, cd_X1_limbAt⟩, ⟨by decide, by decide, by decide +kernel⟩, by decide, by decide⟩
theorem q_X1_digitCount_10 : decode M_X1_digitCount.2.1 10 = .ok (.istore_n 1, 1) ∧ 10 + 1 = 11 := ⟨dcAll_e (i := 6) da_X1_digitCount_0 rfl, rfl⟩
theorem q_X1_digitCount_11 : decode M_X1_digitCount.2.1 11 = .ok (.iconst 0, 1) ∧ 11 + 1 = 12 := ⟨dcAll_e (i := 7) da_X1_digitCount_0 rfl, rfl⟩
theorem q_X1_digitCount_12 : decode M_X1_digitCount.2.1 12 = .ok (.istore_n 2, 1) ∧ 12 + 1 = 13 := ⟨dcAll_e (i := 8) da_X1_digitCount_0 rfl, rfl⟩
theorem q_X1_digitCount_13 : decode M_X1_digitCount.2.1 13 = .ok (.iload_n 2, 1) ∧ 13 + 1 = 14 := ⟨dcAll_e (i := 9) da_X1_digitCount_0 rfl, rfl⟩
theorem q_X1_digitCount_14 : decode M_X1_digitCount.2.1 14 = .ok (.getstatic 66, 3) ∧ 14 + 3 = 17 := ⟨dcAll_e (i := 10) da_X1_digitCount_0 rfl, rfl⟩
theorem s_RX1_66 : Cond.fieldLinkNest RX1 66 RX6 "TENS" "[I" "EnclosedDigits" ∈ en_nest := by decide +kernel
theorem q_X1_digitCount_17 : decode M_X1_digitCount.2.1 17 = .ok (.arraylength, 1) ∧ 17 + 1 = 18 := ⟨dcAll_e (i := 11) da_X1_digitCount_0 rfl, rfl⟩
theorem q_X1_digitCount_18 : decode M_X1_digitCount.2.1 18 = .ok (.if_icmp .ge 18, 3) ∧ 18 + 3 = 21 ∧ ((18 : Nat) : Int) + 18 = ((36 : Nat) : Int) := ⟨dcAll_e (i := 12) da_X1_digitCount_0 rfl, rfl, rfl⟩
theorem q_X1_digitCount_21 : decode M_X1_digitCount.2.1 21 = .ok (.iload_n 1, 1) ∧ 21 + 1 = 22 := ⟨dcAll_e (i := 13) da_X1_digitCount_0 rfl, rfl⟩
theorem q_X1_digitCount_22 : decode M_X1_digitCount.2.1 22 = .ok (.getstatic 66, 3) ∧ 22 + 3 = 25 := ⟨dcAll_e (i := 14) da_X1_digitCount_0 rfl, rfl⟩
theorem q_X1_digitCount_25 : decode M_X1_digitCount.2.1 25 = .ok (.iload_n 2, 1) ∧ 25 + 1 = 26 := ⟨dcAll_e (i := 15) da_X1_digitCount_0 rfl, rfl⟩
theorem q_X1_digitCount_26 : decode M_X1_digitCount.2.1 26 = .ok (.iaload, 1) ∧ 26 + 1 = 27 := ⟨dcAll_e (i := 16) da_X1_digitCount_0 rfl, rfl⟩
theorem q_X1_digitCount_27 : decode M_X1_digitCount.2.1 27 = .ok (.if_icmp .lt 9, 3) ∧ 27 + 3 = 30 ∧ ((27 : Nat) : Int) + 9 = ((36 : Nat) : Int) := ⟨dcAll_e (i := 17) da_X1_digitCount_0 rfl, rfl, rfl⟩
theorem q_X1_digitCount_30 : decode M_X1_digitCount.2.1 30 = .ok (.iinc 2 1, 3) ∧ 30 + 3 = 33 := ⟨dcAll_e (i := 18) da_X1_digitCount_0 rfl, rfl⟩
theorem q_X1_digitCount_33 : decode M_X1_digitCount.2.1 33 = .ok (.goto (-20), 3) ∧ 33 + 3 = 36 ∧ ((33 : Nat) : Int) + (-20) = ((13 : Nat) : Int) := ⟨dcAll_e (i := 19) da_X1_digitCount_0 rfl, rfl, rfl⟩
theorem q_X1_digitCount_36 : decode M_X1_digitCount.2.1 36 = .ok (.aload_n 0, 1) ∧ 36 + 1 = 37 := ⟨dcAll_e (i := 20) da_X1_digitCount_0 rfl, rfl⟩
theorem q_X1_digitCount_37 : decode M_X1_digitCount.2.1 37 = .ok (.getfield 15, 3) ∧ 37 + 3 = 40 := ⟨dcAll_e (i := 21) da_X1_digitCount_0 rfl, rfl⟩
theorem q_X1_digitCount_40 : decode M_X1_digitCount.2.1 40 = .ok (.ifCond .gt 7, 3) ∧ 40 + 3 = 43 ∧ ((40 : Nat) : Int) + 7 = ((47 : Nat) : Int) := ⟨dcAll_e (i := 22) da_X1_digitCount_0 rfl, rfl, rfl⟩
theorem q_X1_digitCount_43 : decode M_X1_digitCount.2.1 43 = .ok (.iconst 0, 1) ∧ 43 + 1 = 44 := ⟨dcAll_e (i := 23) da_X1_digitCount_0 rfl, rfl⟩
theorem q_X1_digitCount_44 : decode M_X1_digitCount.2.1 44 = .ok (.goto 14, 3) ∧ 44 + 3 = 47 ∧ ((44 : Nat) : Int) + 14 = ((58 : Nat) : Int) := ⟨dcAll_e (i := 24) da_X1_digitCount_0 rfl, rfl, rfl⟩
theorem q_X1_digitCount_47 : decode M_X1_digitCount.2.1 47 = .ok (.aload_n 0, 1) ∧ 47 + 1 = 48 := ⟨dcAll_e (i := 25) da_X1_digitCount_0 rfl, rfl⟩
theorem q_X1_digitCount_48 : decode M_X1_digitCount.2.1 48 = .ok (.getfield 15, 3) ∧ 48 + 3 = 51 := ⟨dcAll_e (i := 26) da_X1_digitCount_0 rfl, rfl⟩
theorem q_X1_digitCount_51 : decode M_X1_digitCount.2.1 51 = .ok (.iconst 1, 1) ∧ 51 + 1 = 52 := ⟨dcAll_e (i := 27) da_X1_digitCount_0 rfl, rfl⟩
theorem q_X1_digitCount_52 : decode M_X1_digitCount.2.1 52 = .ok (.isub, 1) ∧ 52 + 1 = 53 := ⟨dcAll_e (i := 28) da_X1_digitCount_0 rfl, rfl⟩
theorem q_X1_digitCount_53 : decode M_X1_digitCount.2.1 53 = .ok (.bipush 9, 2) ∧ 53 + 2 = 55 := ⟨dcAll_e (i := 29) da_X1_digitCount_0 rfl, rfl⟩
theorem q_X1_digitCount_55 : decode M_X1_digitCount.2.1 55 = .ok (.imul, 1) ∧ 55 + 1 = 56 := ⟨dcAll_e (i := 30) da_X1_digitCount_0 rfl, rfl⟩
theorem q_X1_digitCount_56 : decode M_X1_digitCount.2.1 56 = .ok (.iload_n 2, 1) ∧ 56 + 1 = 57 := ⟨dcAll_e (i := 31) da_X1_digitCount_0 rfl, rfl⟩
theorem q_X1_digitCount_57 : decode M_X1_digitCount.2.1 57 = .ok (.iadd, 1) ∧ 57 + 1 = 58 := ⟨dcAll_e (i := 32) da_X1_digitCount_0 rfl, rfl⟩
theorem q_X1_digitCount_58 : decode M_X1_digitCount.2.1 58 = .ok (.ireturn, 1) ∧ 58 + 1 = 59 := ⟨dcAll_e (i := 33) da_X1_digitCount_0 rfl, rfl⟩
def dl_X1_digitAt_0 : List (Nat × Instr × Nat) := [(0, .iload_n 1, 1), (1, .ifCond .ge 7, 3), (4, .iconst 0, 1), (5, .goto 23, 3), (8, .aload_n 0, 1), (9, .iload_n 1, 1), (10, .bipush 9, 2), (12, .idiv, 1), (13, .invokevirtual 55, 3), (16, .getstatic 66, 3), (19, .iload_n 1, 1), (20, .bipush 9, 2), (22, .irem, 1), (23, .iaload, 1), (24, .idiv, 1), (25, .bipush 10, 2), (27, .irem, 1), (28, .ireturn, 1)]
theorem da_X1_digitAt_0 : dcAll M_X1_digitAt.2.1 dl_X1_digitAt_0 = true := by decide +kernel
theorem q_X1_digitAt_0 : decode M_X1_digitAt.2.1 0 = .ok (.iload_n 1, 1) ∧ 0 + 1 = 1 := ⟨dcAll_e (i := 0) da_X1_digitAt_0 rfl, rfl⟩
theorem q_X1_digitAt_1 : decode M_X1_digitAt.2.1 1 = .ok (.ifCond .ge 7, 3) ∧ 1 + 3 = 4 ∧ ((1 : Nat) : Int) + 7 = ((8 : Nat) : Int) := ⟨dcAll_e (i := 1) da_X1_digitAt_0 rfl, rfl, rfl⟩
theorem q_X1_digitAt_4 : decode M_X1_digitAt.2.1 4 = .ok (.iconst 0, 1) ∧ 4 + 1 = 5 := ⟨dcAll_e (i := 2) da_X1_digitAt_0 rfl, rfl⟩
theorem q_X1_digitAt_5 : decode M_X1_digitAt.2.1 5 = .ok (.goto 23, 3) ∧ 5 + 3 = 8 ∧ ((5 : Nat) : Int) + 23 = ((28 : Nat) : Int) := ⟨dcAll_e (i := 3) da_X1_digitAt_0 rfl, rfl, rfl⟩
theorem q_X1_digitAt_8 : decode M_X1_digitAt.2.1 8 = .ok (.aload_n 0, 1) ∧ 8 + 1 = 9 := ⟨dcAll_e (i := 4) da_X1_digitAt_0 rfl, rfl⟩
theorem q_X1_digitAt_9 : decode M_X1_digitAt.2.1 9 = .ok (.iload_n 1, 1) ∧ 9 + 1 = 10 := ⟨dcAll_e (i := 5) da_X1_digitAt_0 rfl, rfl⟩
theorem q_X1_digitAt_10 : decode M_X1_digitAt.2.1 10 = .ok (.bipush 9, 2) ∧ 10 + 2 = 12 := ⟨dcAll_e (i := 6) da_X1_digitAt_0 rfl, rfl⟩
theorem q_X1_digitAt_12 : decode M_X1_digitAt.2.1 12 = .ok (.idiv, 1) ∧ 12 + 1 = 13 := ⟨dcAll_e (i := 7) da_X1_digitAt_0 rfl, rfl⟩
theorem q_X1_digitAt_13 : decode M_X1_digitAt.2.1 13 = .ok (.invokevirtual 55, 3) ∧ 13 + 3 = 16 := ⟨dcAll_e (i := 8) da_X1_digitAt_0 rfl, rfl⟩
theorem g_X1_digitAt_13 : en_C M_X1_digitAt M_X1_limbAt 55 1 := ⟨⟨inT3 75 rfl rfl, in_X1, cd_X1_limbAt⟩, ⟨by decide, by decide, by decide +kernel⟩, by decide, by decide⟩
theorem q_X1_digitAt_16 : decode M_X1_digitAt.2.1 16 = .ok (.getstatic 66, 3) ∧ 16 + 3 = 19 := ⟨dcAll_e (i := 9) da_X1_digitAt_0 rfl, rfl⟩
theorem q_X1_digitAt_19 : decode M_X1_digitAt.2.1 19 = .ok (.iload_n 1, 1) ∧ 19 + 1 = 20 := ⟨dcAll_e (i := 10) da_X1_digitAt_0 rfl, rfl⟩
theorem q_X1_digitAt_20 : decode M_X1_digitAt.2.1 20 = .ok (.bipush 9, 2) ∧ 20 + 2 = 22 := ⟨dcAll_e (i := 11) da_X1_digitAt_0 rfl, rfl⟩
theorem q_X1_digitAt_22 : decode M_X1_digitAt.2.1 22 = .ok (.irem, 1) ∧ 22 + 1 = 23 := ⟨dcAll_e (i := 12) da_X1_digitAt_0 rfl, rfl⟩
theorem q_X1_digitAt_23 : decode M_X1_digitAt.2.1 23 = .ok (.iaload, 1) ∧ 23 + 1 = 24 := ⟨dcAll_e (i := 13) da_X1_digitAt_0 rfl, rfl⟩
theorem q_X1_digitAt_24 : decode M_X1_digitAt.2.1 24 = .ok (.idiv, 1) ∧ 24 + 1 = 25 := ⟨dcAll_e (i := 14) da_X1_digitAt_0 rfl, rfl⟩
theorem q_X1_digitAt_25 : decode M_X1_digitAt.2.1 25 = .ok (.bipush 10, 2) ∧ 25 + 2 = 27 := ⟨dcAll_e (i := 15) da_X1_digitAt_0 rfl, rfl⟩
theorem q_X1_digitAt_27 : decode M_X1_digitAt.2.1 27 = .ok (.irem, 1) ∧ 27 + 1 = 28 := ⟨dcAll_e (i := 16) da_X1_digitAt_0 rfl, rfl⟩
theorem q_X1_digitAt_28 : decode M_X1_digitAt.2.1 28 = .ok (.ireturn, 1) ∧ 28 + 1 = 29 := ⟨dcAll_e (i := 17) da_X1_digitAt_0 rfl, rfl⟩
def dl_X1_compareSizes_0 : List (Nat × Instr × Nat) := [(0, .aload_n 0, 1), (1, .getfield 15, 3), (4, .aload_n 1, 1), (5, .getfield 15, 3), (8, .if_icmp .eq 20, 3), (11, .aload_n 0, 1), (12, .getfield 15, 3), (15, .aload_n 1, 1), (16, .getfield 15, 3), (19, .if_icmp .ge 7, 3), (22, .iconst (-1), 1), (23, .goto 4, 3), (26, .iconst 1, 1), (27, .ireturn, 1), (28, .aload_n 0, 1), (29, .getfield 15, 3), (32, .iconst 1, 1), (33, .isub, 1), (34, .istore_n 2, 1), (35, .iload_n 2, 1), (36, .ifCond .lt 37, 3), (39, .aload_n 0, 1), (40, .getfield 11, 3), (43, .iload_n 2, 1), (44, .iaload, 1), (45, .aload_n 1, 1), (46, .getfield 11, 3), (49, .iload_n 2, 1), (50, .iaload, 1), (51, .isub, 1), (52, .istore_n 3, 1), (53, .iload_n 3, 1), (54, .ifCond .eq 13, 3), (57, .iload_n 3, 1), (58, .ifCond .ge 7, 3), (61, .iconst (-1), 1), (62, .goto 4, 3), (65, .iconst 1, 1), (66, .ireturn, 1), (67, .iinc 2 (-1), 3)]
theorem da_X1_compareSizes_0 : dcAll M_X1_compareSizes.2.1 dl_X1_compareSizes_0 = true := by decide +kernel
def dl_X1_compareSizes_1 : List (Nat × Instr × Nat) := [(70, .goto (-35), 3), (73, .iconst 0, 1), (74, .ireturn, 1)]
theorem da_X1_compareSizes_1 : dcAll M_X1_compareSizes.2.1 dl_X1_compareSizes_1 = true := by decide +kernel
theorem q_X1_compareSizes_0 : decode M_X1_compareSizes.2.1 0 = .ok (.aload_n 0, 1) ∧ 0 + 1 = 1 := ⟨dcAll_e (i := 0) da_X1_compareSizes_0 rfl, rfl⟩
theorem q_X1_compareSizes_1 : decode M_X1_compareSizes.2.1 1 = .ok (.getfield 15, 3) ∧ 1 + 3 = 4 := ⟨dcAll_e (i := 1) da_X1_compareSizes_0 rfl, rfl⟩
theorem q_X1_compareSizes_4 : decode M_X1_compareSizes.2.1 4 = .ok (.aload_n 1, 1) ∧ 4 + 1 = 5 := ⟨dcAll_e (i := 2) da_X1_compareSizes_0 rfl, rfl⟩
theorem q_X1_compareSizes_5 : decode M_X1_compareSizes.2.1 5 = .ok (.getfield 15, 3) ∧ 5 + 3 = 8 := ⟨dcAll_e (i := 3) da_X1_compareSizes_0 rfl, rfl⟩
theorem q_X1_compareSizes_8 : decode M_X1_compareSizes.2.1 8 = .ok (.if_icmp .eq 20, 3) ∧ 8 + 3 = 11 ∧ ((8 : Nat) : Int) + 20 = ((28 : Nat) : Int) := ⟨dcAll_e (i := 4) da_X1_compareSizes_0 rfl, rfl, rfl⟩
theorem q_X1_compareSizes_11 : decode M_X1_compareSizes.2.1 11 = .ok (.aload_n 0, 1) ∧ 11 + 1 = 12 := ⟨dcAll_e (i := 5) da_X1_compareSizes_0 rfl, rfl⟩
theorem q_X1_compareSizes_12 : decode M_X1_compareSizes.2.1 12 = .ok (.getfield 15, 3) ∧ 12 + 3 = 15 := ⟨dcAll_e (i := 6) da_X1_compareSizes_0 rfl, rfl⟩
theorem q_X1_compareSizes_15 : decode M_X1_compareSizes.2.1 15 = .ok (.aload_n 1, 1) ∧ 15 + 1 = 16 := ⟨dcAll_e (i := 7) da_X1_compareSizes_0 rfl, rfl⟩
theorem q_X1_compareSizes_16 : decode M_X1_compareSizes.2.1 16 = .ok (.getfield 15, 3) ∧ 16 + 3 = 19 := ⟨dcAll_e (i := 8) da_X1_compareSizes_0 rfl, rfl⟩
theorem q_X1_compareSizes_19 : decode M_X1_compareSizes.2.1 19 = .ok (.if_icmp .ge 7, 3) ∧ 19 + 3 = 22 ∧ ((19 : Nat) : Int) + 7 = ((26 : Nat) : Int) := ⟨dcAll_e (i := 9) da_X1_compareSizes_0 rfl, rfl, rfl⟩
theorem q_X1_compareSizes_22 : decode M_X1_compareSizes.2.1 22 = .ok (.iconst (-1), 1) ∧ 22 + 1 = 23 := ⟨dcAll_e (i := 10) da_X1_compareSizes_0 rfl, rfl⟩
theorem q_X1_compareSizes_23 : decode M_X1_compareSizes.2.1 23 = .ok (.goto 4, 3) ∧ 23 + 3 = 26 ∧ ((23 : Nat) : Int) + 4 = ((27 : Nat) : Int) := ⟨dcAll_e (i := 11) da_X1_compareSizes_0 rfl, rfl, rfl⟩
theorem q_X1_compareSizes_26 : decode M_X1_compareSizes.2.1 26 = .ok (.iconst 1, 1) ∧ 26 + 1 = 27 := ⟨dcAll_e (i := 12) da_X1_compareSizes_0 rfl, rfl⟩
theorem q_X1_compareSizes_27 : decode M_X1_compareSizes.2.1 27 = .ok (.ireturn, 1) ∧ 27 + 1 = 28 := ⟨dcAll_e (i := 13) da_X1_compareSizes_0 rfl, rfl⟩
theorem q_X1_compareSizes_28 : decode M_X1_compareSizes.2.1 28 = .ok (.aload_n 0, 1) ∧ 28 + 1 = 29 := ⟨dcAll_e (i := 14) da_X1_compareSizes_0 rfl, rfl⟩
theorem q_X1_compareSizes_29 : decode M_X1_compareSizes.2.1 29 = .ok (.getfield 15, 3) ∧ 29 + 3 = 32 := ⟨dcAll_e (i := 15) da_X1_compareSizes_0 rfl, rfl⟩
theorem q_X1_compareSizes_32 : decode M_X1_compareSizes.2.1 32 = .ok (.iconst 1, 1) ∧ 32 + 1 = 33 := ⟨dcAll_e (i := 16) da_X1_compareSizes_0 rfl, rfl⟩
theorem q_X1_compareSizes_33 : decode M_X1_compareSizes.2.1 33 = .ok (.isub, 1) ∧ 33 + 1 = 34 := ⟨dcAll_e (i := 17) da_X1_compareSizes_0 rfl, rfl⟩
theorem q_X1_compareSizes_34 : decode M_X1_compareSizes.2.1 34 = .ok (.istore_n 2, 1) ∧ 34 + 1 = 35 := ⟨dcAll_e (i := 18) da_X1_compareSizes_0 rfl, rfl⟩
theorem q_X1_compareSizes_35 : decode M_X1_compareSizes.2.1 35 = .ok (.iload_n 2, 1) ∧ 35 + 1 = 36 := ⟨dcAll_e (i := 19) da_X1_compareSizes_0 rfl, rfl⟩
theorem q_X1_compareSizes_36 : decode M_X1_compareSizes.2.1 36 = .ok (.ifCond .lt 37, 3) ∧ 36 + 3 = 39 ∧ ((36 : Nat) : Int) + 37 = ((73 : Nat) : Int) := ⟨dcAll_e (i := 20) da_X1_compareSizes_0 rfl, rfl, rfl⟩
theorem q_X1_compareSizes_39 : decode M_X1_compareSizes.2.1 39 = .ok (.aload_n 0, 1) ∧ 39 + 1 = 40 := ⟨dcAll_e (i := 21) da_X1_compareSizes_0 rfl, rfl⟩
theorem q_X1_compareSizes_40 : decode M_X1_compareSizes.2.1 40 = .ok (.getfield 11, 3) ∧ 40 + 3 = 43 := ⟨dcAll_e (i := 22) da_X1_compareSizes_0 rfl, rfl⟩
theorem q_X1_compareSizes_43 : decode M_X1_compareSizes.2.1 43 = .ok (.iload_n 2, 1) ∧ 43 + 1 = 44 := ⟨dcAll_e (i := 23) da_X1_compareSizes_0 rfl, rfl⟩
theorem q_X1_compareSizes_44 : decode M_X1_compareSizes.2.1 44 = .ok (.iaload, 1) ∧ 44 + 1 = 45 := ⟨dcAll_e (i := 24) da_X1_compareSizes_0 rfl, rfl⟩
theorem q_X1_compareSizes_45 : decode M_X1_compareSizes.2.1 45 = .ok (.aload_n 1, 1) ∧ 45 + 1 = 46 := ⟨dcAll_e (i := 25) da_X1_compareSizes_0 rfl, rfl⟩
theorem q_X1_compareSizes_46 : decode M_X1_compareSizes.2.1 46 = .ok (.getfield 11, 3) ∧ 46 + 3 = 49 := ⟨dcAll_e (i := 26) da_X1_compareSizes_0 rfl, rfl⟩
theorem q_X1_compareSizes_49 : decode M_X1_compareSizes.2.1 49 = .ok (.iload_n 2, 1) ∧ 49 + 1 = 50 := ⟨dcAll_e (i := 27) da_X1_compareSizes_0 rfl, rfl⟩
theorem q_X1_compareSizes_50 : decode M_X1_compareSizes.2.1 50 = .ok (.iaload, 1) ∧ 50 + 1 = 51 := ⟨dcAll_e (i := 28) da_X1_compareSizes_0 rfl, rfl⟩
theorem q_X1_compareSizes_51 : decode M_X1_compareSizes.2.1 51 = .ok (.isub, 1) ∧ 51 + 1 = 52 := ⟨dcAll_e (i := 29) da_X1_compareSizes_0 rfl, rfl⟩
theorem q_X1_compareSizes_52 : decode M_X1_compareSizes.2.1 52 = .ok (.istore_n 3, 1) ∧ 52 + 1 = 53 := ⟨dcAll_e (i := 30) da_X1_compareSizes_0 rfl, rfl⟩
theorem q_X1_compareSizes_53 : decode M_X1_compareSizes.2.1 53 = .ok (.iload_n 3, 1) ∧ 53 + 1 = 54 := ⟨dcAll_e (i := 31) da_X1_compareSizes_0 rfl, rfl⟩
theorem q_X1_compareSizes_54 : decode M_X1_compareSizes.2.1 54 = .ok (.ifCond .eq 13, 3) ∧ 54 + 3 = 57 ∧ ((54 : Nat) : Int) + 13 = ((67 : Nat) : Int) := ⟨dcAll_e (i := 32) da_X1_compareSizes_0 rfl, rfl, rfl⟩
theorem q_X1_compareSizes_57 : decode M_X1_compareSizes.2.1 57 = .ok (.iload_n 3, 1) ∧ 57 + 1 = 58 := ⟨dcAll_e (i := 33) da_X1_compareSizes_0 rfl, rfl⟩
theorem q_X1_compareSizes_58 : decode M_X1_compareSizes.2.1 58 = .ok (.ifCond .ge 7, 3) ∧ 58 + 3 = 61 ∧ ((58 : Nat) : Int) + 7 = ((65 : Nat) : Int) := ⟨dcAll_e (i := 34) da_X1_compareSizes_0 rfl, rfl, rfl⟩
theorem q_X1_compareSizes_61 : decode M_X1_compareSizes.2.1 61 = .ok (.iconst (-1), 1) ∧ 61 + 1 = 62 := ⟨dcAll_e (i := 35) da_X1_compareSizes_0 rfl, rfl⟩
theorem q_X1_compareSizes_62 : decode M_X1_compareSizes.2.1 62 = .ok (.goto 4, 3) ∧ 62 + 3 = 65 ∧ ((62 : Nat) : Int) + 4 = ((66 : Nat) : Int) := ⟨dcAll_e (i := 36) da_X1_compareSizes_0 rfl, rfl, rfl⟩
theorem q_X1_compareSizes_65 : decode M_X1_compareSizes.2.1 65 = .ok (.iconst 1, 1) ∧ 65 + 1 = 66 := ⟨dcAll_e (i := 37) da_X1_compareSizes_0 rfl, rfl⟩
theorem q_X1_compareSizes_66 : decode M_X1_compareSizes.2.1 66 = .ok (.ireturn, 1) ∧ 66 + 1 = 67 := ⟨dcAll_e (i := 38) da_X1_compareSizes_0 rfl, rfl⟩
theorem q_X1_compareSizes_67 : decode M_X1_compareSizes.2.1 67 = .ok (.iinc 2 (-1), 3) ∧ 67 + 3 = 70 := ⟨dcAll_e (i := 39) da_X1_compareSizes_0 rfl, rfl⟩
theorem q_X1_compareSizes_70 : decode M_X1_compareSizes.2.1 70 = .ok (.goto (-35), 3) ∧ 70 + 3 = 73 ∧ ((70 : Nat) : Int) + (-35) = ((35 : Nat) : Int) := ⟨dcAll_e (i := 0) da_X1_compareSizes_1 rfl, rfl, rfl⟩
theorem q_X1_compareSizes_73 : decode M_X1_compareSizes.2.1 73 = .ok (.iconst 0, 1) ∧ 73 + 1 = 74 := ⟨dcAll_e (i := 1) da_X1_compareSizes_1 rfl, rfl⟩
theorem q_X1_compareSizes_74 : decode M_X1_compareSizes.2.1 74 = .ok (.ireturn, 1) ∧ 74 + 1 = 75 := ⟨dcAll_e (i := 2) da_X1_compareSizes_1 rfl, rfl⟩
def dl_X1_compare_0 : List (Nat × Instr × Nat) := [(0, .aload_n 0, 1), (1, .getfield 34, 3), (4, .aload_n 1, 1), (5, .getfield 34, 3), (8, .if_icmp .eq 20, 3), (11, .aload_n 0, 1), (12, .getfield 34, 3), (15, .aload_n 1, 1), (16, .getfield 34, 3), (19, .if_icmp .ge 7, 3), (22, .iconst (-1), 1), (23, .goto 4, 3), (26, .iconst 1, 1), (27, .ireturn, 1), (28, .aload_n 0, 1), (29, .getfield 34, 3), (32, .aload_n 0, 1), (33, .aload_n 1, 1), (34, .invokevirtual 69, 3), (37, .imul, 1), (38, .ireturn, 1)]
theorem da_X1_compare_0 : dcAll M_X1_compare.2.1 dl_X1_compare_0 = true := by decide +kernel
theorem q_X1_compare_0 : decode M_X1_compare.2.1 0 = .ok (.aload_n 0, 1) ∧ 0 + 1 = 1 := ⟨dcAll_e (i := 0) da_X1_compare_0 rfl, rfl⟩
theorem q_X1_compare_1 : decode M_X1_compare.2.1 1 = .ok (.getfield 34, 3) ∧ 1 + 3 = 4 := ⟨dcAll_e (i := 1) da_X1_compare_0 rfl, rfl⟩
theorem q_X1_compare_4 : decode M_X1_compare.2.1 4 = .ok (.aload_n 1, 1) ∧ 4 + 1 = 5 := ⟨dcAll_e (i := 2) da_X1_compare_0 rfl, rfl⟩
theorem q_X1_compare_5 : decode M_X1_compare.2.1 5 = .ok (.getfield 34, 3) ∧ 5 + 3 = 8 := ⟨dcAll_e (i := 3) da_X1_compare_0 rfl, rfl⟩
theorem q_X1_compare_8 : decode M_X1_compare.2.1 8 = .ok (.if_icmp .eq 20, 3) ∧ 8 + 3 = 11 ∧ ((8 : Nat) : Int) + 20 = ((28 : Nat) : Int) := ⟨dcAll_e (i := 4) da_X1_compare_0 rfl, rfl, rfl⟩
theorem q_X1_compare_11 : decode M_X1_compare.2.1 11 = .ok (.aload_n 0, 1) ∧ 11 + 1 = 12 := ⟨dcAll_e (i := 5) da_X1_compare_0 rfl, rfl⟩
theorem q_X1_compare_12 : decode M_X1_compare.2.1 12 = .ok (.getfield 34, 3) ∧ 12 + 3 = 15 := ⟨dcAll_e (i := 6) da_X1_compare_0 rfl, rfl⟩
theorem q_X1_compare_15 : decode M_X1_compare.2.1 15 = .ok (.aload_n 1, 1) ∧ 15 + 1 = 16 := ⟨dcAll_e (i := 7) da_X1_compare_0 rfl, rfl⟩
theorem q_X1_compare_16 : decode M_X1_compare.2.1 16 = .ok (.getfield 34, 3) ∧ 16 + 3 = 19 := ⟨dcAll_e (i := 8) da_X1_compare_0 rfl, rfl⟩
theorem q_X1_compare_19 : decode M_X1_compare.2.1 19 = .ok (.if_icmp .ge 7, 3) ∧ 19 + 3 = 22 ∧ ((19 : Nat) : Int) + 7 = ((26 : Nat) : Int) := ⟨dcAll_e (i := 9) da_X1_compare_0 rfl, rfl, rfl⟩
theorem q_X1_compare_22 : decode M_X1_compare.2.1 22 = .ok (.iconst (-1), 1) ∧ 22 + 1 = 23 := ⟨dcAll_e (i := 10) da_X1_compare_0 rfl, rfl⟩
theorem q_X1_compare_23 : decode M_X1_compare.2.1 23 = .ok (.goto 4, 3) ∧ 23 + 3 = 26 ∧ ((23 : Nat) : Int) + 4 = ((27 : Nat) : Int) := ⟨dcAll_e (i := 11) da_X1_compare_0 rfl, rfl, rfl⟩
theorem q_X1_compare_26 : decode M_X1_compare.2.1 26 = .ok (.iconst 1, 1) ∧ 26 + 1 = 27 := ⟨dcAll_e (i := 12) da_X1_compare_0 rfl, rfl⟩
theorem q_X1_compare_27 : decode M_X1_compare.2.1 27 = .ok (.ireturn, 1) ∧ 27 + 1 = 28 := ⟨dcAll_e (i := 13) da_X1_compare_0 rfl, rfl⟩
theorem q_X1_compare_28 : decode M_X1_compare.2.1 28 = .ok (.aload_n 0, 1) ∧ 28 + 1 = 29 := ⟨dcAll_e (i := 14) da_X1_compare_0 rfl, rfl⟩
theorem q_X1_compare_29 : decode M_X1_compare.2.1 29 = .ok (.getfield 34, 3) ∧ 29 + 3 = 32 := ⟨dcAll_e (i := 15) da_X1_compare_0 rfl, rfl⟩
theorem q_X1_compare_32 : decode M_X1_compare.2.1 32 = .ok (.aload_n 0, 1) ∧ 32 + 1 = 33 := ⟨dcAll_e (i := 16) da_X1_compare_0 rfl, rfl⟩
theorem q_X1_compare_33 : decode M_X1_compare.2.1 33 = .ok (.aload_n 1, 1) ∧ 33 + 1 = 34 := ⟨dcAll_e (i := 17) da_X1_compare_0 rfl, rfl⟩
theorem q_X1_compare_34 : decode M_X1_compare.2.1 34 = .ok (.invokevirtual 69, 3) ∧ 34 + 3 = 37 := ⟨dcAll_e (i := 18) da_X1_compare_0 rfl, rfl⟩
theorem cd_X1_compareSizes : Cond.code M_X1_compareSizes.1 M_X1_compareSizes.2.1 M_X1_compareSizes.2.2.1 M_X1_compareSizes.2.2.2.1 ∈ en_tbl := inT2 224 rfl rfl
theorem g_X1_compare_34 : en_C M_X1_compare M_X1_compareSizes 69 1 := ⟨⟨inT2 221 rfl rfl, in_X1, cd_X1_compareSizes⟩, ⟨by decide, by decide, by decide +kernel⟩, by decide, by decide⟩
theorem w_X1_compareSizes : Cond.instanceMethod M_X1_compareSizes.1 ∈ en_tbl ∧ Cond.selects M_X1_compareSizes.1.cls M_X1_compareSizes.1 M_X1_compareSizes.1 ∈ en_tbl := ⟨inT2 222 rfl rfl, inT2 223 rfl rfl⟩
theorem q_X1_compare_37 : decode M_X1_compare.2.1 37 = .ok (.imul, 1) ∧ 37 + 1 = 38 := ⟨dcAll_e (i := 19) da_X1_compare_0 rfl, rfl⟩
theorem q_X1_compare_38 : decode M_X1_compare.2.1 38 = .ok (.ireturn, 1) ∧ 38 + 1 = 39 := ⟨dcAll_e (i := 20) da_X1_compare_0 rfl, rfl⟩
def dl_X1_grow_0 : List (Nat × Instr × Nat) := [(0, .aload_n 0, 1), (1, .getfield 34, 3), (4, .ifCond .ne 7, 3), (7, .iload_n 1, 1), (8, .goto 7, 3), (11, .aload_n 0, 1), (12, .getfield 34, 3), (15, .istore_n 2, 1), (16, .aload_n 0, 1), (17, .aload_n 0, 1), (18, .getfield 15, 3), (21, .iconst 1, 1), (22, .iadd, 1), (23, .invokevirtual 37, 3), (26, .iconst 0, 1), (27, .istore_n 3, 1), (28, .iload_n 3, 1), (29, .aload_n 0, 1), (30, .getfield 15, 3), (33, .iconst 1, 1), (34, .isub, 1), (35, .if_icmp .ge 27, 3), (38, .aload_n 0, 1), (39, .getfield 11, 3), (42, .iload_n 3, 1), (43, .iaload, 1), (44, .ldc 73, 2), (46, .if_icmp .ne 16, 3), (49, .aload_n 0, 1), (50, .getfield 11, 3), (53, .iload_n 3, 1), (54, .iconst 0, 1), (55, .iastore, 1), (56, .iinc 3 1, 3), (59, .goto (-31), 3), (62, .aload_n 0, 1), (63, .getfield 11, 3), (66, .iload_n 3, 1), (67, .dup2, 1), (68, .iaload, 1)]
theorem da_X1_grow_0 : dcAll M_X1_grow.2.1 dl_X1_grow_0 = true := by decide +kernel
def dl_X1_grow_1 : List (Nat × Instr × Nat) := [(69, .iconst 1, 1), (70, .iadd, 1), (71, .iastore, 1), (72, .aload_n 0, 1), (73, .iload_n 2, 1), (74, .invokevirtual 52, 3), (77, .return_, 1)]
theorem da_X1_grow_1 : dcAll M_X1_grow.2.1 dl_X1_grow_1 = true := by decide +kernel
theorem q_X1_grow_0 : decode M_X1_grow.2.1 0 = .ok (.aload_n 0, 1) ∧ 0 + 1 = 1 := ⟨dcAll_e (i := 0) da_X1_grow_0 rfl, rfl⟩
theorem q_X1_grow_1 : decode M_X1_grow.2.1 1 = .ok (.getfield 34, 3) ∧ 1 + 3 = 4 := ⟨dcAll_e (i := 1) da_X1_grow_0 rfl, rfl⟩
theorem q_X1_grow_4 : decode M_X1_grow.2.1 4 = .ok (.ifCond .ne 7, 3) ∧ 4 + 3 = 7 ∧ ((4 : Nat) : Int) + 7 = ((11 : Nat) : Int) := ⟨dcAll_e (i := 2) da_X1_grow_0 rfl, rfl, rfl⟩
theorem q_X1_grow_7 : decode M_X1_grow.2.1 7 = .ok (.iload_n 1, 1) ∧ 7 + 1 = 8 := ⟨dcAll_e (i := 3) da_X1_grow_0 rfl, rfl⟩
theorem q_X1_grow_8 : decode M_X1_grow.2.1 8 = .ok (.goto 7, 3) ∧ 8 + 3 = 11 ∧ ((8 : Nat) : Int) + 7 = ((15 : Nat) : Int) := ⟨dcAll_e (i := 4) da_X1_grow_0 rfl, rfl, rfl⟩
theorem q_X1_grow_11 : decode M_X1_grow.2.1 11 = .ok (.aload_n 0, 1) ∧ 11 + 1 = 12 := ⟨dcAll_e (i := 5) da_X1_grow_0 rfl, rfl⟩
theorem q_X1_grow_12 : decode M_X1_grow.2.1 12 = .ok (.getfield 34, 3) ∧ 12 + 3 = 15 := ⟨dcAll_e (i := 6) da_X1_grow_0 rfl, rfl⟩
theorem q_X1_grow_15 : decode M_X1_grow.2.1 15 = .ok (.istore_n 2, 1) ∧ 15 + 1 = 16 := ⟨dcAll_e (i := 7) da_X1_grow_0 rfl, rfl⟩
theorem q_X1_grow_16 : decode M_X1_grow.2.1 16 = .ok (.aload_n 0, 1) ∧ 16 + 1 = 17 := ⟨dcAll_e (i := 8) da_X1_grow_0 rfl, rfl⟩
theorem q_X1_grow_17 : decode M_X1_grow.2.1 17 = .ok (.aload_n 0, 1) ∧ 17 + 1 = 18 := ⟨dcAll_e (i := 9) da_X1_grow_0 rfl, rfl⟩
theorem q_X1_grow_18 : decode M_X1_grow.2.1 18 = .ok (.getfield 15, 3) ∧ 18 + 3 = 21 := ⟨dcAll_e (i := 10) da_X1_grow_0 rfl, rfl⟩
theorem q_X1_grow_21 : decode M_X1_grow.2.1 21 = .ok (.iconst 1, 1) ∧ 21 + 1 = 22 := ⟨dcAll_e (i := 11) da_X1_grow_0 rfl, rfl⟩
theorem q_X1_grow_22 : decode M_X1_grow.2.1 22 = .ok (.iadd, 1) ∧ 22 + 1 = 23 := ⟨dcAll_e (i := 12) da_X1_grow_0 rfl, rfl⟩
theorem q_X1_grow_23 : decode M_X1_grow.2.1 23 = .ok (.invokevirtual 37, 3) ∧ 23 + 3 = 26 := ⟨dcAll_e (i := 13) da_X1_grow_0 rfl, rfl⟩
theorem g_X1_grow_23 : en_C M_X1_grow M_X1_extend 37 1 := ⟨⟨inT2 98 rfl rfl, in_X1, cd_X1_extend⟩, ⟨by decide, by decide, by decide +kernel⟩, by decide, by decide⟩
theorem q_X1_grow_26 : decode M_X1_grow.2.1 26 = .ok (.iconst 0, 1) ∧ 26 + 1 = 27 := ⟨dcAll_e (i := 14) da_X1_grow_0 rfl, rfl⟩
theorem q_X1_grow_27 : decode M_X1_grow.2.1 27 = .ok (.istore_n 3, 1) ∧ 27 + 1 = 28 := ⟨dcAll_e (i := 15) da_X1_grow_0 rfl, rfl⟩
theorem q_X1_grow_28 : decode M_X1_grow.2.1 28 = .ok (.iload_n 3, 1) ∧ 28 + 1 = 29 := ⟨dcAll_e (i := 16) da_X1_grow_0 rfl, rfl⟩
theorem q_X1_grow_29 : decode M_X1_grow.2.1 29 = .ok (.aload_n 0, 1) ∧ 29 + 1 = 30 := ⟨dcAll_e (i := 17) da_X1_grow_0 rfl, rfl⟩
theorem q_X1_grow_30 : decode M_X1_grow.2.1 30 = .ok (.getfield 15, 3) ∧ 30 + 3 = 33 := ⟨dcAll_e (i := 18) da_X1_grow_0 rfl, rfl⟩
theorem q_X1_grow_33 : decode M_X1_grow.2.1 33 = .ok (.iconst 1, 1) ∧ 33 + 1 = 34 := ⟨dcAll_e (i := 19) da_X1_grow_0 rfl, rfl⟩
theorem q_X1_grow_34 : decode M_X1_grow.2.1 34 = .ok (.isub, 1) ∧ 34 + 1 = 35 := ⟨dcAll_e (i := 20) da_X1_grow_0 rfl, rfl⟩
theorem q_X1_grow_35 : decode M_X1_grow.2.1 35 = .ok (.if_icmp .ge 27, 3) ∧ 35 + 3 = 38 ∧ ((35 : Nat) : Int) + 27 = ((62 : Nat) : Int) := ⟨dcAll_e (i := 21) da_X1_grow_0 rfl, rfl, rfl⟩
theorem q_X1_grow_38 : decode M_X1_grow.2.1 38 = .ok (.aload_n 0, 1) ∧ 38 + 1 = 39 := ⟨dcAll_e (i := 22) da_X1_grow_0 rfl, rfl⟩
theorem q_X1_grow_39 : decode M_X1_grow.2.1 39 = .ok (.getfield 11, 3) ∧ 39 + 3 = 42 := ⟨dcAll_e (i := 23) da_X1_grow_0 rfl, rfl⟩
theorem q_X1_grow_42 : decode M_X1_grow.2.1 42 = .ok (.iload_n 3, 1) ∧ 42 + 1 = 43 := ⟨dcAll_e (i := 24) da_X1_grow_0 rfl, rfl⟩
theorem q_X1_grow_43 : decode M_X1_grow.2.1 43 = .ok (.iaload, 1) ∧ 43 + 1 = 44 := ⟨dcAll_e (i := 25) da_X1_grow_0 rfl, rfl⟩
theorem q_X1_grow_44 : decode M_X1_grow.2.1 44 = .ok (.ldc 73, 2) ∧ 44 + 2 = 46 := ⟨dcAll_e (i := 26) da_X1_grow_0 rfl, rfl⟩
theorem k_RX1_73 : Cond.constant RX1 73 (nI 999999999) ∈ en_tbl := by decide +kernel
theorem q_X1_grow_46 : decode M_X1_grow.2.1 46 = .ok (.if_icmp .ne 16, 3) ∧ 46 + 3 = 49 ∧ ((46 : Nat) : Int) + 16 = ((62 : Nat) : Int) := ⟨dcAll_e (i := 27) da_X1_grow_0 rfl, rfl, rfl⟩
theorem q_X1_grow_49 : decode M_X1_grow.2.1 49 = .ok (.aload_n 0, 1) ∧ 49 + 1 = 50 := ⟨dcAll_e (i := 28) da_X1_grow_0 rfl, rfl⟩
theorem q_X1_grow_50 : decode M_X1_grow.2.1 50 = .ok (.getfield 11, 3) ∧ 50 + 3 = 53 := ⟨dcAll_e (i := 29) da_X1_grow_0 rfl, rfl⟩
theorem q_X1_grow_53 : decode M_X1_grow.2.1 53 = .ok (.iload_n 3, 1) ∧ 53 + 1 = 54 := ⟨dcAll_e (i := 30) da_X1_grow_0 rfl, rfl⟩
theorem q_X1_grow_54 : decode M_X1_grow.2.1 54 = .ok (.iconst 0, 1) ∧ 54 + 1 = 55 := ⟨dcAll_e (i := 31) da_X1_grow_0 rfl, rfl⟩
theorem q_X1_grow_55 : decode M_X1_grow.2.1 55 = .ok (.iastore, 1) ∧ 55 + 1 = 56 := ⟨dcAll_e (i := 32) da_X1_grow_0 rfl, rfl⟩
theorem q_X1_grow_56 : decode M_X1_grow.2.1 56 = .ok (.iinc 3 1, 3) ∧ 56 + 3 = 59 := ⟨dcAll_e (i := 33) da_X1_grow_0 rfl, rfl⟩
theorem q_X1_grow_59 : decode M_X1_grow.2.1 59 = .ok (.goto (-31), 3) ∧ 59 + 3 = 62 ∧ ((59 : Nat) : Int) + (-31) = ((28 : Nat) : Int) := ⟨dcAll_e (i := 34) da_X1_grow_0 rfl, rfl, rfl⟩
theorem q_X1_grow_62 : decode M_X1_grow.2.1 62 = .ok (.aload_n 0, 1) ∧ 62 + 1 = 63 := ⟨dcAll_e (i := 35) da_X1_grow_0 rfl, rfl⟩
theorem q_X1_grow_63 : decode M_X1_grow.2.1 63 = .ok (.getfield 11, 3) ∧ 63 + 3 = 66 := ⟨dcAll_e (i := 36) da_X1_grow_0 rfl, rfl⟩
theorem q_X1_grow_66 : decode M_X1_grow.2.1 66 = .ok (.iload_n 3, 1) ∧ 66 + 1 = 67 := ⟨dcAll_e (i := 37) da_X1_grow_0 rfl, rfl⟩
theorem q_X1_grow_67 : decode M_X1_grow.2.1 67 = .ok (.dup2, 1) ∧ 67 + 1 = 68 := ⟨dcAll_e (i := 38) da_X1_grow_0 rfl, rfl⟩
theorem q_X1_grow_68 : decode M_X1_grow.2.1 68 = .ok (.iaload, 1) ∧ 68 + 1 = 69 := ⟨dcAll_e (i := 39) da_X1_grow_0 rfl, rfl⟩
theorem q_X1_grow_69 : decode M_X1_grow.2.1 69 = .ok (.iconst 1, 1) ∧ 69 + 1 = 70 := ⟨dcAll_e (i := 0) da_X1_grow_1 rfl, rfl⟩
theorem q_X1_grow_70 : decode M_X1_grow.2.1 70 = .ok (.iadd, 1) ∧ 70 + 1 = 71 := ⟨dcAll_e (i := 1) da_X1_grow_1 rfl, rfl⟩
theorem q_X1_grow_71 : decode M_X1_grow.2.1 71 = .ok (.iastore, 1) ∧ 71 + 1 = 72 := ⟨dcAll_e (i := 2) da_X1_grow_1 rfl, rfl⟩
theorem q_X1_grow_72 : decode M_X1_grow.2.1 72 = .ok (.aload_n 0, 1) ∧ 72 + 1 = 73 := ⟨dcAll_e (i := 3) da_X1_grow_1 rfl, rfl⟩
theorem q_X1_grow_73 : decode M_X1_grow.2.1 73 = .ok (.iload_n 2, 1) ∧ 73 + 1 = 74 := ⟨dcAll_e (i := 4) da_X1_grow_1 rfl, rfl⟩
theorem q_X1_grow_74 : decode M_X1_grow.2.1 74 = .ok (.invokevirtual 52, 3) ∧ 74 + 3 = 77 := ⟨dcAll_e (i := 5) da_X1_grow_1 rfl, rfl⟩
theorem g_X1_grow_74 : en_C M_X1_grow M_X1_trim 52 1 := ⟨⟨inT2 122 rfl rfl, in_X1, cd_X1_trim⟩, ⟨by decide, by decide, by decide +kernel⟩, by decide, by decide⟩
theorem q_X1_grow_77 : decode M_X1_grow.2.1 77 = .ok (.return_, 1) ∧ 77 + 1 = 78 := ⟨dcAll_e (i := 6) da_X1_grow_1 rfl, rfl⟩
def dl_X1_add_0 : List (Nat × Instr × Nat) := [(0, .aload_n 1, 1), (1, .getfield 34, 3), (4, .ifCond .ne 4, 3), (7, .return_, 1), (8, .aload_n 0, 1), (9, .getfield 34, 3), (12, .ifCond .eq 14, 3), (15, .aload_n 0, 1), (16, .getfield 34, 3), (19, .aload_n 1, 1), (20, .getfield 34, 3), (23, .if_icmp .ne 15, 3), (26, .aload_n 0, 1), (27, .aload_n 1, 1), (28, .aload_n 1, 1), (29, .getfield 34, 3), (32, .invokevirtual 74, 3), (35, .goto 34, 3), (38, .aload_n 0, 1), (39, .aload_n 1, 1), (40, .invokevirtual 69, 3), (43, .ifCond .lt 16, 3), (46, .aload_n 0, 1), (47, .aload_n 1, 1), (48, .iconst 1, 1), (49, .aload_n 0, 1), (50, .getfield 34, 3), (53, .invokevirtual 78, 3), (56, .goto 13, 3), (59, .aload_n 0, 1), (60, .aload_n 1, 1), (61, .iconst (-1), 1), (62, .aload_n 1, 1), (63, .getfield 34, 3), (66, .invokevirtual 78, 3), (69, .return_, 1)]
theorem da_X1_add_0 : dcAll M_X1_add.2.1 dl_X1_add_0 = true := by decide +kernel
theorem q_X1_add_0 : decode M_X1_add.2.1 0 = .ok (.aload_n 1, 1) ∧ 0 + 1 = 1 := ⟨dcAll_e (i := 0) da_X1_add_0 rfl, rfl⟩
theorem q_X1_add_1 : decode M_X1_add.2.1 1 = .ok (.getfield 34, 3) ∧ 1 + 3 = 4 := ⟨dcAll_e (i := 1) da_X1_add_0 rfl, rfl⟩
theorem q_X1_add_4 : decode M_X1_add.2.1 4 = .ok (.ifCond .ne 4, 3) ∧ 4 + 3 = 7 ∧ ((4 : Nat) : Int) + 4 = ((8 : Nat) : Int) := ⟨dcAll_e (i := 2) da_X1_add_0 rfl, rfl, rfl⟩
theorem q_X1_add_7 : decode M_X1_add.2.1 7 = .ok (.return_, 1) ∧ 7 + 1 = 8 := ⟨dcAll_e (i := 3) da_X1_add_0 rfl, rfl⟩
theorem q_X1_add_8 : decode M_X1_add.2.1 8 = .ok (.aload_n 0, 1) ∧ 8 + 1 = 9 := ⟨dcAll_e (i := 4) da_X1_add_0 rfl, rfl⟩
theorem q_X1_add_9 : decode M_X1_add.2.1 9 = .ok (.getfield 34, 3) ∧ 9 + 3 = 12 := ⟨dcAll_e (i := 5) da_X1_add_0 rfl, rfl⟩
theorem q_X1_add_12 : decode M_X1_add.2.1 12 = .ok (.ifCond .eq 14, 3) ∧ 12 + 3 = 15 ∧ ((12 : Nat) : Int) + 14 = ((26 : Nat) : Int) := ⟨dcAll_e (i := 6) da_X1_add_0 rfl, rfl, rfl⟩
theorem q_X1_add_15 : decode M_X1_add.2.1 15 = .ok (.aload_n 0, 1) ∧ 15 + 1 = 16 := ⟨dcAll_e (i := 7) da_X1_add_0 rfl, rfl⟩
theorem q_X1_add_16 : decode M_X1_add.2.1 16 = .ok (.getfield 34, 3) ∧ 16 + 3 = 19 := ⟨dcAll_e (i := 8) da_X1_add_0 rfl, rfl⟩
theorem q_X1_add_19 : decode M_X1_add.2.1 19 = .ok (.aload_n 1, 1) ∧ 19 + 1 = 20 := ⟨dcAll_e (i := 9) da_X1_add_0 rfl, rfl⟩
theorem q_X1_add_20 : decode M_X1_add.2.1 20 = .ok (.getfield 34, 3) ∧ 20 + 3 = 23 := ⟨dcAll_e (i := 10) da_X1_add_0 rfl, rfl⟩
theorem q_X1_add_23 : decode M_X1_add.2.1 23 = .ok (.if_icmp .ne 15, 3) ∧ 23 + 3 = 26 ∧ ((23 : Nat) : Int) + 15 = ((38 : Nat) : Int) := ⟨dcAll_e (i := 11) da_X1_add_0 rfl, rfl, rfl⟩
theorem q_X1_add_26 : decode M_X1_add.2.1 26 = .ok (.aload_n 0, 1) ∧ 26 + 1 = 27 := ⟨dcAll_e (i := 12) da_X1_add_0 rfl, rfl⟩
theorem q_X1_add_27 : decode M_X1_add.2.1 27 = .ok (.aload_n 1, 1) ∧ 27 + 1 = 28 := ⟨dcAll_e (i := 13) da_X1_add_0 rfl, rfl⟩
theorem q_X1_add_28 : decode M_X1_add.2.1 28 = .ok (.aload_n 1, 1) ∧ 28 + 1 = 29 := ⟨dcAll_e (i := 14) da_X1_add_0 rfl, rfl⟩
theorem q_X1_add_29 : decode M_X1_add.2.1 29 = .ok (.getfield 34, 3) ∧ 29 + 3 = 32 := ⟨dcAll_e (i := 15) da_X1_add_0 rfl, rfl⟩
theorem q_X1_add_32 : decode M_X1_add.2.1 32 = .ok (.invokevirtual 74, 3) ∧ 32 + 3 = 35 := ⟨dcAll_e (i := 16) da_X1_add_0 rfl, rfl⟩
theorem cd_X1_addLimbs : Cond.code M_X1_addLimbs.1 M_X1_addLimbs.2.1 M_X1_addLimbs.2.2.1 M_X1_addLimbs.2.2.2.1 ∈ en_tbl := inT2 219 rfl rfl
theorem g_X1_add_32 : en_C M_X1_add M_X1_addLimbs 74 2 := ⟨⟨inT2 216 rfl rfl, in_X1, cd_X1_addLimbs⟩, ⟨by decide, by decide, by decide +kernel⟩, by decide, by decide⟩
theorem w_X1_addLimbs : Cond.instanceMethod M_X1_addLimbs.1 ∈ en_tbl ∧ Cond.selects M_X1_addLimbs.1.cls M_X1_addLimbs.1 M_X1_addLimbs.1 ∈ en_tbl := ⟨inT2 218 rfl rfl, by decide +kernel⟩
theorem q_X1_add_35 : decode M_X1_add.2.1 35 = .ok (.goto 34, 3) ∧ 35 + 3 = 38 ∧ ((35 : Nat) : Int) + 34 = ((69 : Nat) : Int) := ⟨dcAll_e (i := 17) da_X1_add_0 rfl, rfl, rfl⟩
theorem q_X1_add_38 : decode M_X1_add.2.1 38 = .ok (.aload_n 0, 1) ∧ 38 + 1 = 39 := ⟨dcAll_e (i := 18) da_X1_add_0 rfl, rfl⟩
theorem q_X1_add_39 : decode M_X1_add.2.1 39 = .ok (.aload_n 1, 1) ∧ 39 + 1 = 40 := ⟨dcAll_e (i := 19) da_X1_add_0 rfl, rfl⟩
theorem q_X1_add_40 : decode M_X1_add.2.1 40 = .ok (.invokevirtual 69, 3) ∧ 40 + 3 = 43 := ⟨dcAll_e (i := 20) da_X1_add_0 rfl, rfl⟩
theorem g_X1_add_40 : en_C M_X1_add M_X1_compareSizes 69 1 := ⟨⟨inT2 221 rfl rfl, in_X1, cd_X1_compareSizes⟩, ⟨by decide, by decide, by decide +kernel⟩, by decide, by decide⟩
theorem q_X1_add_43 : decode M_X1_add.2.1 43 = .ok (.ifCond .lt 16, 3) ∧ 43 + 3 = 46 ∧ ((43 : Nat) : Int) + 16 = ((59 : Nat) : Int) := ⟨dcAll_e (i := 21) da_X1_add_0 rfl, rfl, rfl⟩
theorem q_X1_add_46 : decode M_X1_add.2.1 46 = .ok (.aload_n 0, 1) ∧ 46 + 1 = 47 := ⟨dcAll_e (i := 22) da_X1_add_0 rfl, rfl⟩
theorem q_X1_add_47 : decode M_X1_add.2.1 47 = .ok (.aload_n 1, 1) ∧ 47 + 1 = 48 := ⟨dcAll_e (i := 23) da_X1_add_0 rfl, rfl⟩
theorem q_X1_add_48 : decode M_X1_add.2.1 48 = .ok (.iconst 1, 1) ∧ 48 + 1 = 49 := ⟨dcAll_e (i := 24) da_X1_add_0 rfl, rfl⟩
theorem q_X1_add_49 : decode M_X1_add.2.1 49 = .ok (.aload_n 0, 1) ∧ 49 + 1 = 50 := ⟨dcAll_e (i := 25) da_X1_add_0 rfl, rfl⟩
theorem q_X1_add_50 : decode M_X1_add.2.1 50 = .ok (.getfield 34, 3) ∧ 50 + 3 = 53 := ⟨dcAll_e (i := 26) da_X1_add_0 rfl, rfl⟩
theorem q_X1_add_53 : decode M_X1_add.2.1 53 = .ok (.invokevirtual 78, 3) ∧ 53 + 3 = 56 := ⟨dcAll_e (i := 27) da_X1_add_0 rfl, rfl⟩
theorem cd_X1_subtractLimbs : Cond.code M_X1_subtractLimbs.1 M_X1_subtractLimbs.2.1 M_X1_subtractLimbs.2.2.1 M_X1_subtractLimbs.2.2.2.1 ∈ en_tbl := inT2 228 rfl rfl
theorem g_X1_add_53 : en_C M_X1_add M_X1_subtractLimbs 78 3 := ⟨⟨inT2 225 rfl rfl, in_X1, cd_X1_subtractLimbs⟩, ⟨by decide, by decide, by decide +kernel⟩, by decide, by decide⟩
theorem w_X1_subtractLimbs : Cond.instanceMethod M_X1_subtractLimbs.1 ∈ en_tbl ∧ Cond.selects M_X1_subtractLimbs.1.cls M_X1_subtractLimbs.1 M_X1_subtractLimbs.1 ∈ en_tbl := ⟨inT2 227 rfl rfl, by decide +kernel⟩
theorem q_X1_add_56 : decode M_X1_add.2.1 56 = .ok (.goto 13, 3) ∧ 56 + 3 = 59 ∧ ((56 : Nat) : Int) + 13 = ((69 : Nat) : Int) := ⟨dcAll_e (i := 28) da_X1_add_0 rfl, rfl, rfl⟩
theorem q_X1_add_59 : decode M_X1_add.2.1 59 = .ok (.aload_n 0, 1) ∧ 59 + 1 = 60 := ⟨dcAll_e (i := 29) da_X1_add_0 rfl, rfl⟩
theorem q_X1_add_60 : decode M_X1_add.2.1 60 = .ok (.aload_n 1, 1) ∧ 60 + 1 = 61 := ⟨dcAll_e (i := 30) da_X1_add_0 rfl, rfl⟩
theorem q_X1_add_61 : decode M_X1_add.2.1 61 = .ok (.iconst (-1), 1) ∧ 61 + 1 = 62 := ⟨dcAll_e (i := 31) da_X1_add_0 rfl, rfl⟩
theorem q_X1_add_62 : decode M_X1_add.2.1 62 = .ok (.aload_n 1, 1) ∧ 62 + 1 = 63 := ⟨dcAll_e (i := 32) da_X1_add_0 rfl, rfl⟩
theorem q_X1_add_63 : decode M_X1_add.2.1 63 = .ok (.getfield 34, 3) ∧ 63 + 3 = 66 := ⟨dcAll_e (i := 33) da_X1_add_0 rfl, rfl⟩
theorem q_X1_add_66 : decode M_X1_add.2.1 66 = .ok (.invokevirtual 78, 3) ∧ 66 + 3 = 69 := ⟨dcAll_e (i := 34) da_X1_add_0 rfl, rfl⟩
theorem g_X1_add_66 : en_C M_X1_add M_X1_subtractLimbs 78 3 := ⟨⟨inT2 225 rfl rfl, in_X1, cd_X1_subtractLimbs⟩, ⟨by decide, by decide, by decide +kernel⟩, by decide, by decide⟩
theorem q_X1_add_69 : decode M_X1_add.2.1 69 = .ok (.return_, 1) ∧ 69 + 1 = 70 := ⟨dcAll_e (i := 35) da_X1_add_0 rfl, rfl⟩
def dl_X1_subtract_0 : List (Nat × Instr × Nat) := [(0, .aload_n 1, 1), (1, .aload_n 0, 1), (2, .if_acmp .ne 8, 3), (5, .aload_n 0, 1), (6, .invokevirtual 47, 3), (9, .return_, 1), (10, .aload_n 0, 1), (11, .aload_n 0, 1), (12, .getfield 34, 3), (15, .ineg, 1), (16, .putfield 34, 3), (19, .aload_n 0, 1), (20, .aload_n 1, 1), (21, .invokevirtual 82, 3), (24, .aload_n 0, 1), (25, .aload_n 0, 1), (26, .getfield 34, 3), (29, .ineg, 1), (30, .putfield 34, 3), (33, .return_, 1)]
theorem da_X1_subtract_0 : dcAll M_X1_subtract.2.1 dl_X1_subtract_0 = true := by decide +kernel
theorem q_X1_subtract_0 : decode M_X1_subtract.2.1 0 = .ok (.aload_n 1, 1) ∧ 0 + 1 = 1 := ⟨dcAll_e (i := 0) da_X1_subtract_0 rfl, rfl⟩
theorem q_X1_subtract_1 : decode M_X1_subtract.2.1 1 = .ok (.aload_n 0, 1) ∧ 1 + 1 = 2 := ⟨dcAll_e (i := 1) da_X1_subtract_0 rfl, rfl⟩
theorem q_X1_subtract_2 : decode M_X1_subtract.2.1 2 = .ok (.if_acmp .ne 8, 3) ∧ 2 + 3 = 5 ∧ ((2 : Nat) : Int) + 8 = ((10 : Nat) : Int) := ⟨dcAll_e (i := 2) da_X1_subtract_0 rfl, rfl, rfl⟩
theorem q_X1_subtract_5 : decode M_X1_subtract.2.1 5 = .ok (.aload_n 0, 1) ∧ 5 + 1 = 6 := ⟨dcAll_e (i := 3) da_X1_subtract_0 rfl, rfl⟩
theorem q_X1_subtract_6 : decode M_X1_subtract.2.1 6 = .ok (.invokevirtual 47, 3) ∧ 6 + 3 = 9 := ⟨dcAll_e (i := 4) da_X1_subtract_0 rfl, rfl⟩
theorem g_X1_subtract_6 : en_C M_X1_subtract M_X1_clear 47 0 := ⟨⟨inT2 94 rfl rfl, in_X1, cd_X1_clear⟩, ⟨by decide, by decide, by decide +kernel⟩, by decide, by decide⟩
theorem q_X1_subtract_9 : decode M_X1_subtract.2.1 9 = .ok (.return_, 1) ∧ 9 + 1 = 10 := ⟨dcAll_e (i := 5) da_X1_subtract_0 rfl, rfl⟩
theorem q_X1_subtract_10 : decode M_X1_subtract.2.1 10 = .ok (.aload_n 0, 1) ∧ 10 + 1 = 11 := ⟨dcAll_e (i := 6) da_X1_subtract_0 rfl, rfl⟩
theorem q_X1_subtract_11 : decode M_X1_subtract.2.1 11 = .ok (.aload_n 0, 1) ∧ 11 + 1 = 12 := ⟨dcAll_e (i := 7) da_X1_subtract_0 rfl, rfl⟩
theorem q_X1_subtract_12 : decode M_X1_subtract.2.1 12 = .ok (.getfield 34, 3) ∧ 12 + 3 = 15 := ⟨dcAll_e (i := 8) da_X1_subtract_0 rfl, rfl⟩
theorem q_X1_subtract_15 : decode M_X1_subtract.2.1 15 = .ok (.ineg, 1) ∧ 15 + 1 = 16 := ⟨dcAll_e (i := 9) da_X1_subtract_0 rfl, rfl⟩
theorem q_X1_subtract_16 : decode M_X1_subtract.2.1 16 = .ok (.putfield 34, 3) ∧ 16 + 3 = 19 := ⟨dcAll_e (i := 10) da_X1_subtract_0 rfl, rfl⟩
theorem q_X1_subtract_19 : decode M_X1_subtract.2.1 19 = .ok (.aload_n 0, 1) ∧ 19 + 1 = 20 := ⟨dcAll_e (i := 11) da_X1_subtract_0 rfl, rfl⟩
theorem q_X1_subtract_20 : decode M_X1_subtract.2.1 20 = .ok (.aload_n 1, 1) ∧ 20 + 1 = 21 := ⟨dcAll_e (i := 12) da_X1_subtract_0 rfl, rfl⟩
theorem q_X1_subtract_21 : decode M_X1_subtract.2.1 21 = .ok (.invokevirtual 82, 3) ∧ 21 + 3 = 24 := ⟨dcAll_e (i := 13) da_X1_subtract_0 rfl, rfl⟩
theorem cd_X1_add : Cond.code M_X1_add.1 M_X1_add.2.1 M_X1_add.2.2.1 M_X1_add.2.2.2.1 ∈ en_tbl := inT2 215 rfl rfl
theorem g_X1_subtract_21 : en_C M_X1_subtract M_X1_add 82 1 := ⟨⟨inT3 5 rfl rfl, in_X1, cd_X1_add⟩, ⟨by decide, by decide, by decide +kernel⟩, by decide, by decide⟩
theorem w_X1_add : Cond.instanceMethod M_X1_add.1 ∈ en_tbl ∧ Cond.selects M_X1_add.1.cls M_X1_add.1 M_X1_add.1 ∈ en_tbl := ⟨inT2 213 rfl rfl, inT2 214 rfl rfl⟩
theorem q_X1_subtract_24 : decode M_X1_subtract.2.1 24 = .ok (.aload_n 0, 1) ∧ 24 + 1 = 25 := ⟨dcAll_e (i := 14) da_X1_subtract_0 rfl, rfl⟩
theorem q_X1_subtract_25 : decode M_X1_subtract.2.1 25 = .ok (.aload_n 0, 1) ∧ 25 + 1 = 26 := ⟨dcAll_e (i := 15) da_X1_subtract_0 rfl, rfl⟩
theorem q_X1_subtract_26 : decode M_X1_subtract.2.1 26 = .ok (.getfield 34, 3) ∧ 26 + 3 = 29 := ⟨dcAll_e (i := 16) da_X1_subtract_0 rfl, rfl⟩
theorem q_X1_subtract_29 : decode M_X1_subtract.2.1 29 = .ok (.ineg, 1) ∧ 29 + 1 = 30 := ⟨dcAll_e (i := 17) da_X1_subtract_0 rfl, rfl⟩
theorem q_X1_subtract_30 : decode M_X1_subtract.2.1 30 = .ok (.putfield 34, 3) ∧ 30 + 3 = 33 := ⟨dcAll_e (i := 18) da_X1_subtract_0 rfl, rfl⟩
theorem q_X1_subtract_33 : decode M_X1_subtract.2.1 33 = .ok (.return_, 1) ∧ 33 + 1 = 34 := ⟨dcAll_e (i := 19) da_X1_subtract_0 rfl, rfl⟩
def dl_X1_addLimbs_0 : List (Nat × Instr × Nat) := [(0, .aload_n 0, 1), (1, .aload_n 0, 1), (2, .getfield 15, 3), (5, .aload_n 1, 1), (6, .getfield 15, 3), (9, .invokestatic 19, 3), (12, .iconst 1, 1), (13, .iadd, 1), (14, .invokevirtual 37, 3), (17, .iconst 0, 1), (18, .istore_n 3, 1), (19, .iconst 0, 1), (20, .istore 4, 2), (22, .iload 4, 2), (24, .aload_n 0, 1), (25, .getfield 15, 3), (28, .if_icmp .ge 81, 3), (31, .iload 4, 2), (33, .aload_n 1, 1), (34, .getfield 15, 3), (37, .if_icmp .lt 7, 3), (40, .iload_n 3, 1), (41, .ifCond .le 68, 3), (44, .aload_n 0, 1), (45, .getfield 11, 3), (48, .iload 4, 2), (50, .iaload, 1), (51, .iload 4, 2), (53, .aload_n 1, 1), (54, .getfield 15, 3), (57, .if_icmp .ge 13, 3), (60, .aload_n 1, 1), (61, .getfield 11, 3), (64, .iload 4, 2), (66, .iaload, 1), (67, .goto 4, 3), (70, .iconst 0, 1), (71, .iadd, 1), (72, .iload_n 3, 1), (73, .iadd, 1)]
theorem da_X1_addLimbs_0 : dcAll M_X1_addLimbs.2.1 dl_X1_addLimbs_0 = true := by decide +kernel
def dl_X1_addLimbs_1 : List (Nat × Instr × Nat) := [(74, .istore 5, 2), (76, .iload 5, 2), (78, .ldc 86, 2), (80, .if_icmp .lt 7, 3), (83, .iconst 1, 1), (84, .goto 4, 3), (87, .iconst 0, 1), (88, .istore_n 3, 1), (89, .aload_n 0, 1), (90, .getfield 11, 3), (93, .iload 4, 2), (95, .iload 5, 2), (97, .iload_n 3, 1), (98, .ldc 86, 2), (100, .imul, 1), (101, .isub, 1), (102, .iastore, 1), (103, .iinc 4 1, 3), (106, .goto (-84), 3), (109, .aload_n 0, 1), (110, .iload_n 2, 1), (111, .invokevirtual 52, 3), (114, .return_, 1)]
theorem da_X1_addLimbs_1 : dcAll M_X1_addLimbs.2.1 dl_X1_addLimbs_1 = true := by decide +kernel
theorem q_X1_addLimbs_0 : decode M_X1_addLimbs.2.1 0 = .ok (.aload_n 0, 1) ∧ 0 + 1 = 1 := ⟨dcAll_e (i := 0) da_X1_addLimbs_0 rfl, rfl⟩
theorem q_X1_addLimbs_1 : decode M_X1_addLimbs.2.1 1 = .ok (.aload_n 0, 1) ∧ 1 + 1 = 2 := ⟨dcAll_e (i := 1) da_X1_addLimbs_0 rfl, rfl⟩
theorem q_X1_addLimbs_2 : decode M_X1_addLimbs.2.1 2 = .ok (.getfield 15, 3) ∧ 2 + 3 = 5 := ⟨dcAll_e (i := 2) da_X1_addLimbs_0 rfl, rfl⟩
theorem q_X1_addLimbs_5 : decode M_X1_addLimbs.2.1 5 = .ok (.aload_n 1, 1) ∧ 5 + 1 = 6 := ⟨dcAll_e (i := 3) da_X1_addLimbs_0 rfl, rfl⟩
theorem q_X1_addLimbs_6 : decode M_X1_addLimbs.2.1 6 = .ok (.getfield 15, 3) ∧ 6 + 3 = 9 := ⟨dcAll_e (i := 4) da_X1_addLimbs_0 rfl, rfl⟩
theorem q_X1_addLimbs_9 : decode M_X1_addLimbs.2.1 9 = .ok (.invokestatic 19, 3) ∧ 9 + 3 = 12 := ⟨dcAll_e (i := 5) da_X1_addLimbs_0 rfl, rfl⟩
theorem q_X1_addLimbs_12 : decode M_X1_addLimbs.2.1 12 = .ok (.iconst 1, 1) ∧ 12 + 1 = 13 := ⟨dcAll_e (i := 6) da_X1_addLimbs_0 rfl, rfl⟩
theorem q_X1_addLimbs_13 : decode M_X1_addLimbs.2.1 13 = .ok (.iadd, 1) ∧ 13 + 1 = 14 := ⟨dcAll_e (i := 7) da_X1_addLimbs_0 rfl, rfl⟩
theorem q_X1_addLimbs_14 : decode M_X1_addLimbs.2.1 14 = .ok (.invokevirtual 37, 3) ∧ 14 + 3 = 17 := ⟨dcAll_e (i := 8) da_X1_addLimbs_0 rfl, rfl⟩
theorem g_X1_addLimbs_14 : en_C M_X1_addLimbs M_X1_extend 37 1 := ⟨⟨inT2 98 rfl rfl, in_X1, cd_X1_extend⟩, ⟨by decide, by decide, by decide +kernel⟩, by decide, by decide⟩
theorem q_X1_addLimbs_17 : decode M_X1_addLimbs.2.1 17 = .ok (.iconst 0, 1) ∧ 17 + 1 = 18 := ⟨dcAll_e (i := 9) da_X1_addLimbs_0 rfl, rfl⟩
theorem q_X1_addLimbs_18 : decode M_X1_addLimbs.2.1 18 = .ok (.istore_n 3, 1) ∧ 18 + 1 = 19 := ⟨dcAll_e (i := 10) da_X1_addLimbs_0 rfl, rfl⟩
theorem q_X1_addLimbs_19 : decode M_X1_addLimbs.2.1 19 = .ok (.iconst 0, 1) ∧ 19 + 1 = 20 := ⟨dcAll_e (i := 11) da_X1_addLimbs_0 rfl, rfl⟩
theorem q_X1_addLimbs_20 : decode M_X1_addLimbs.2.1 20 = .ok (.istore 4, 2) ∧ 20 + 2 = 22 := ⟨dcAll_e (i := 12) da_X1_addLimbs_0 rfl, rfl⟩
theorem q_X1_addLimbs_22 : decode M_X1_addLimbs.2.1 22 = .ok (.iload 4, 2) ∧ 22 + 2 = 24 := ⟨dcAll_e (i := 13) da_X1_addLimbs_0 rfl, rfl⟩
theorem q_X1_addLimbs_24 : decode M_X1_addLimbs.2.1 24 = .ok (.aload_n 0, 1) ∧ 24 + 1 = 25 := ⟨dcAll_e (i := 14) da_X1_addLimbs_0 rfl, rfl⟩
theorem q_X1_addLimbs_25 : decode M_X1_addLimbs.2.1 25 = .ok (.getfield 15, 3) ∧ 25 + 3 = 28 := ⟨dcAll_e (i := 15) da_X1_addLimbs_0 rfl, rfl⟩
theorem q_X1_addLimbs_28 : decode M_X1_addLimbs.2.1 28 = .ok (.if_icmp .ge 81, 3) ∧ 28 + 3 = 31 ∧ ((28 : Nat) : Int) + 81 = ((109 : Nat) : Int) := ⟨dcAll_e (i := 16) da_X1_addLimbs_0 rfl, rfl, rfl⟩
theorem q_X1_addLimbs_31 : decode M_X1_addLimbs.2.1 31 = .ok (.iload 4, 2) ∧ 31 + 2 = 33 := ⟨dcAll_e (i := 17) da_X1_addLimbs_0 rfl, rfl⟩
theorem q_X1_addLimbs_33 : decode M_X1_addLimbs.2.1 33 = .ok (.aload_n 1, 1) ∧ 33 + 1 = 34 := ⟨dcAll_e (i := 18) da_X1_addLimbs_0 rfl, rfl⟩
theorem q_X1_addLimbs_34 : decode M_X1_addLimbs.2.1 34 = .ok (.getfield 15, 3) ∧ 34 + 3 = 37 := ⟨dcAll_e (i := 19) da_X1_addLimbs_0 rfl, rfl⟩
theorem q_X1_addLimbs_37 : decode M_X1_addLimbs.2.1 37 = .ok (.if_icmp .lt 7, 3) ∧ 37 + 3 = 40 ∧ ((37 : Nat) : Int) + 7 = ((44 : Nat) : Int) := ⟨dcAll_e (i := 20) da_X1_addLimbs_0 rfl, rfl, rfl⟩
theorem q_X1_addLimbs_40 : decode M_X1_addLimbs.2.1 40 = .ok (.iload_n 3, 1) ∧ 40 + 1 = 41 := ⟨dcAll_e (i := 21) da_X1_addLimbs_0 rfl, rfl⟩
theorem q_X1_addLimbs_41 : decode M_X1_addLimbs.2.1 41 = .ok (.ifCond .le 68, 3) ∧ 41 + 3 = 44 ∧ ((41 : Nat) : Int) + 68 = ((109 : Nat) : Int) := ⟨dcAll_e (i := 22) da_X1_addLimbs_0 rfl, rfl, rfl⟩
theorem q_X1_addLimbs_44 : decode M_X1_addLimbs.2.1 44 = .ok (.aload_n 0, 1) ∧ 44 + 1 = 45 := ⟨dcAll_e (i := 23) da_X1_addLimbs_0 rfl, rfl⟩
theorem q_X1_addLimbs_45 : decode M_X1_addLimbs.2.1 45 = .ok (.getfield 11, 3) ∧ 45 + 3 = 48 := ⟨dcAll_e (i := 24) da_X1_addLimbs_0 rfl, rfl⟩
theorem q_X1_addLimbs_48 : decode M_X1_addLimbs.2.1 48 = .ok (.iload 4, 2) ∧ 48 + 2 = 50 := ⟨dcAll_e (i := 25) da_X1_addLimbs_0 rfl, rfl⟩
theorem q_X1_addLimbs_50 : decode M_X1_addLimbs.2.1 50 = .ok (.iaload, 1) ∧ 50 + 1 = 51 := ⟨dcAll_e (i := 26) da_X1_addLimbs_0 rfl, rfl⟩
theorem q_X1_addLimbs_51 : decode M_X1_addLimbs.2.1 51 = .ok (.iload 4, 2) ∧ 51 + 2 = 53 := ⟨dcAll_e (i := 27) da_X1_addLimbs_0 rfl, rfl⟩
theorem q_X1_addLimbs_53 : decode M_X1_addLimbs.2.1 53 = .ok (.aload_n 1, 1) ∧ 53 + 1 = 54 := ⟨dcAll_e (i := 28) da_X1_addLimbs_0 rfl, rfl⟩
theorem q_X1_addLimbs_54 : decode M_X1_addLimbs.2.1 54 = .ok (.getfield 15, 3) ∧ 54 + 3 = 57 := ⟨dcAll_e (i := 29) da_X1_addLimbs_0 rfl, rfl⟩
theorem q_X1_addLimbs_57 : decode M_X1_addLimbs.2.1 57 = .ok (.if_icmp .ge 13, 3) ∧ 57 + 3 = 60 ∧ ((57 : Nat) : Int) + 13 = ((70 : Nat) : Int) := ⟨dcAll_e (i := 30) da_X1_addLimbs_0 rfl, rfl, rfl⟩
theorem q_X1_addLimbs_60 : decode M_X1_addLimbs.2.1 60 = .ok (.aload_n 1, 1) ∧ 60 + 1 = 61 := ⟨dcAll_e (i := 31) da_X1_addLimbs_0 rfl, rfl⟩
theorem q_X1_addLimbs_61 : decode M_X1_addLimbs.2.1 61 = .ok (.getfield 11, 3) ∧ 61 + 3 = 64 := ⟨dcAll_e (i := 32) da_X1_addLimbs_0 rfl, rfl⟩
theorem q_X1_addLimbs_64 : decode M_X1_addLimbs.2.1 64 = .ok (.iload 4, 2) ∧ 64 + 2 = 66 := ⟨dcAll_e (i := 33) da_X1_addLimbs_0 rfl, rfl⟩
theorem q_X1_addLimbs_66 : decode M_X1_addLimbs.2.1 66 = .ok (.iaload, 1) ∧ 66 + 1 = 67 := ⟨dcAll_e (i := 34) da_X1_addLimbs_0 rfl, rfl⟩
theorem q_X1_addLimbs_67 : decode M_X1_addLimbs.2.1 67 = .ok (.goto 4, 3) ∧ 67 + 3 = 70 ∧ ((67 : Nat) : Int) + 4 = ((71 : Nat) : Int) := ⟨dcAll_e (i := 35) da_X1_addLimbs_0 rfl, rfl, rfl⟩
theorem q_X1_addLimbs_70 : decode M_X1_addLimbs.2.1 70 = .ok (.iconst 0, 1) ∧ 70 + 1 = 71 := ⟨dcAll_e (i := 36) da_X1_addLimbs_0 rfl, rfl⟩
theorem q_X1_addLimbs_71 : decode M_X1_addLimbs.2.1 71 = .ok (.iadd, 1) ∧ 71 + 1 = 72 := ⟨dcAll_e (i := 37) da_X1_addLimbs_0 rfl, rfl⟩
theorem q_X1_addLimbs_72 : decode M_X1_addLimbs.2.1 72 = .ok (.iload_n 3, 1) ∧ 72 + 1 = 73 := ⟨dcAll_e (i := 38) da_X1_addLimbs_0 rfl, rfl⟩
theorem q_X1_addLimbs_73 : decode M_X1_addLimbs.2.1 73 = .ok (.iadd, 1) ∧ 73 + 1 = 74 := ⟨dcAll_e (i := 39) da_X1_addLimbs_0 rfl, rfl⟩
theorem q_X1_addLimbs_74 : decode M_X1_addLimbs.2.1 74 = .ok (.istore 5, 2) ∧ 74 + 2 = 76 := ⟨dcAll_e (i := 0) da_X1_addLimbs_1 rfl, rfl⟩
theorem q_X1_addLimbs_76 : decode M_X1_addLimbs.2.1 76 = .ok (.iload 5, 2) ∧ 76 + 2 = 78 := ⟨dcAll_e (i := 1) da_X1_addLimbs_1 rfl, rfl⟩
theorem q_X1_addLimbs_78 : decode M_X1_addLimbs.2.1 78 = .ok (.ldc 86, 2) ∧ 78 + 2 = 80 := ⟨dcAll_e (i := 2) da_X1_addLimbs_1 rfl, rfl⟩
theorem k_RX1_86 : Cond.constant RX1 86 (nI 1000000000) ∈ en_tbl := by decide +kernel
theorem q_X1_addLimbs_80 : decode M_X1_addLimbs.2.1 80 = .ok (.if_icmp .lt 7, 3) ∧ 80 + 3 = 83 ∧ ((80 : Nat) : Int) + 7 = ((87 : Nat) : Int) := ⟨dcAll_e (i := 3) da_X1_addLimbs_1 rfl, rfl, rfl⟩
theorem q_X1_addLimbs_83 : decode M_X1_addLimbs.2.1 83 = .ok (.iconst 1, 1) ∧ 83 + 1 = 84 := ⟨dcAll_e (i := 4) da_X1_addLimbs_1 rfl, rfl⟩
theorem q_X1_addLimbs_84 : decode M_X1_addLimbs.2.1 84 = .ok (.goto 4, 3) ∧ 84 + 3 = 87 ∧ ((84 : Nat) : Int) + 4 = ((88 : Nat) : Int) := ⟨dcAll_e (i := 5) da_X1_addLimbs_1 rfl, rfl, rfl⟩
theorem q_X1_addLimbs_87 : decode M_X1_addLimbs.2.1 87 = .ok (.iconst 0, 1) ∧ 87 + 1 = 88 := ⟨dcAll_e (i := 6) da_X1_addLimbs_1 rfl, rfl⟩
theorem q_X1_addLimbs_88 : decode M_X1_addLimbs.2.1 88 = .ok (.istore_n 3, 1) ∧ 88 + 1 = 89 := ⟨dcAll_e (i := 7) da_X1_addLimbs_1 rfl, rfl⟩
theorem q_X1_addLimbs_89 : decode M_X1_addLimbs.2.1 89 = .ok (.aload_n 0, 1) ∧ 89 + 1 = 90 := ⟨dcAll_e (i := 8) da_X1_addLimbs_1 rfl, rfl⟩
theorem q_X1_addLimbs_90 : decode M_X1_addLimbs.2.1 90 = .ok (.getfield 11, 3) ∧ 90 + 3 = 93 := ⟨dcAll_e (i := 9) da_X1_addLimbs_1 rfl, rfl⟩
theorem q_X1_addLimbs_93 : decode M_X1_addLimbs.2.1 93 = .ok (.iload 4, 2) ∧ 93 + 2 = 95 := ⟨dcAll_e (i := 10) da_X1_addLimbs_1 rfl, rfl⟩
theorem q_X1_addLimbs_95 : decode M_X1_addLimbs.2.1 95 = .ok (.iload 5, 2) ∧ 95 + 2 = 97 := ⟨dcAll_e (i := 11) da_X1_addLimbs_1 rfl, rfl⟩
theorem q_X1_addLimbs_97 : decode M_X1_addLimbs.2.1 97 = .ok (.iload_n 3, 1) ∧ 97 + 1 = 98 := ⟨dcAll_e (i := 12) da_X1_addLimbs_1 rfl, rfl⟩
theorem q_X1_addLimbs_98 : decode M_X1_addLimbs.2.1 98 = .ok (.ldc 86, 2) ∧ 98 + 2 = 100 := ⟨dcAll_e (i := 13) da_X1_addLimbs_1 rfl, rfl⟩
theorem q_X1_addLimbs_100 : decode M_X1_addLimbs.2.1 100 = .ok (.imul, 1) ∧ 100 + 1 = 101 := ⟨dcAll_e (i := 14) da_X1_addLimbs_1 rfl, rfl⟩
theorem q_X1_addLimbs_101 : decode M_X1_addLimbs.2.1 101 = .ok (.isub, 1) ∧ 101 + 1 = 102 := ⟨dcAll_e (i := 15) da_X1_addLimbs_1 rfl, rfl⟩
theorem q_X1_addLimbs_102 : decode M_X1_addLimbs.2.1 102 = .ok (.iastore, 1) ∧ 102 + 1 = 103 := ⟨dcAll_e (i := 16) da_X1_addLimbs_1 rfl, rfl⟩
theorem q_X1_addLimbs_103 : decode M_X1_addLimbs.2.1 103 = .ok (.iinc 4 1, 3) ∧ 103 + 3 = 106 := ⟨dcAll_e (i := 17) da_X1_addLimbs_1 rfl, rfl⟩
theorem q_X1_addLimbs_106 : decode M_X1_addLimbs.2.1 106 = .ok (.goto (-84), 3) ∧ 106 + 3 = 109 ∧ ((106 : Nat) : Int) + (-84) = ((22 : Nat) : Int) := ⟨dcAll_e (i := 18) da_X1_addLimbs_1 rfl, rfl, rfl⟩
theorem q_X1_addLimbs_109 : decode M_X1_addLimbs.2.1 109 = .ok (.aload_n 0, 1) ∧ 109 + 1 = 110 := ⟨dcAll_e (i := 19) da_X1_addLimbs_1 rfl, rfl⟩
theorem q_X1_addLimbs_110 : decode M_X1_addLimbs.2.1 110 = .ok (.iload_n 2, 1) ∧ 110 + 1 = 111 := ⟨dcAll_e (i := 20) da_X1_addLimbs_1 rfl, rfl⟩
theorem q_X1_addLimbs_111 : decode M_X1_addLimbs.2.1 111 = .ok (.invokevirtual 52, 3) ∧ 111 + 3 = 114 := ⟨dcAll_e (i := 21) da_X1_addLimbs_1 rfl, rfl⟩
theorem g_X1_addLimbs_111 : en_C M_X1_addLimbs M_X1_trim 52 1 := ⟨⟨inT2 122 rfl rfl, in_X1, cd_X1_trim⟩, ⟨by decide, by decide, by decide +kernel⟩, by decide, by decide⟩
theorem q_X1_addLimbs_114 : decode M_X1_addLimbs.2.1 114 = .ok (.return_, 1) ∧ 114 + 1 = 115 := ⟨dcAll_e (i := 22) da_X1_addLimbs_1 rfl, rfl⟩
def dl_X1_subtractLimbs_0 : List (Nat × Instr × Nat) := [(0, .aload_n 0, 1), (1, .aload_n 0, 1), (2, .getfield 15, 3), (5, .aload_n 1, 1), (6, .getfield 15, 3), (9, .invokestatic 19, 3), (12, .invokevirtual 37, 3), (15, .iconst 0, 1), (16, .istore 4, 2), (18, .iconst 0, 1), (19, .istore 5, 2), (21, .iload 5, 2), (23, .aload_n 0, 1), (24, .getfield 15, 3), (27, .if_icmp .ge 75, 3), (30, .iload 5, 2), (32, .aload_n 1, 1), (33, .getfield 15, 3), (36, .if_icmp .ge 13, 3), (39, .aload_n 1, 1), (40, .getfield 11, 3), (43, .iload 5, 2), (45, .iaload, 1), (46, .goto 4, 3), (49, .iconst 0, 1), (50, .istore 6, 2), (52, .iload_n 2, 1), (53, .aload_n 0, 1), (54, .getfield 11, 3), (57, .iload 5, 2), (59, .iaload, 1), (60, .iload 6, 2), (62, .isub, 1), (63, .imul, 1), (64, .iload 4, 2), (66, .isub, 1), (67, .istore 7, 2), (69, .iload 7, 2), (71, .ifCond .ge 7, 3), (74, .iconst 1, 1)]
theorem da_X1_subtractLimbs_0 : dcAll M_X1_subtractLimbs.2.1 dl_X1_subtractLimbs_0 = true := by decide +kernel
def dl_X1_subtractLimbs_1 : List (Nat × Instr × Nat) := [(75, .goto 4, 3), (78, .iconst 0, 1), (79, .istore 4, 2), (81, .aload_n 0, 1), (82, .getfield 11, 3), (85, .iload 5, 2), (87, .iload 7, 2), (89, .iload 4, 2), (91, .ldc 86, 2), (93, .imul, 1), (94, .iadd, 1), (95, .iastore, 1), (96, .iinc 5 1, 3), (99, .goto (-78), 3), (102, .aload_n 0, 1), (103, .iload_n 3, 1), (104, .invokevirtual 52, 3), (107, .return_, 1)]
theorem da_X1_subtractLimbs_1 : dcAll M_X1_subtractLimbs.2.1 dl_X1_subtractLimbs_1 = true := by decide +kernel
theorem q_X1_subtractLimbs_0 : decode M_X1_subtractLimbs.2.1 0 = .ok (.aload_n 0, 1) ∧ 0 + 1 = 1 := ⟨dcAll_e (i := 0) da_X1_subtractLimbs_0 rfl, rfl⟩
theorem q_X1_subtractLimbs_1 : decode M_X1_subtractLimbs.2.1 1 = .ok (.aload_n 0, 1) ∧ 1 + 1 = 2 := ⟨dcAll_e (i := 1) da_X1_subtractLimbs_0 rfl, rfl⟩
theorem q_X1_subtractLimbs_2 : decode M_X1_subtractLimbs.2.1 2 = .ok (.getfield 15, 3) ∧ 2 + 3 = 5 := ⟨dcAll_e (i := 2) da_X1_subtractLimbs_0 rfl, rfl⟩
theorem q_X1_subtractLimbs_5 : decode M_X1_subtractLimbs.2.1 5 = .ok (.aload_n 1, 1) ∧ 5 + 1 = 6 := ⟨dcAll_e (i := 3) da_X1_subtractLimbs_0 rfl, rfl⟩
theorem q_X1_subtractLimbs_6 : decode M_X1_subtractLimbs.2.1 6 = .ok (.getfield 15, 3) ∧ 6 + 3 = 9 := ⟨dcAll_e (i := 4) da_X1_subtractLimbs_0 rfl, rfl⟩
theorem q_X1_subtractLimbs_9 : decode M_X1_subtractLimbs.2.1 9 = .ok (.invokestatic 19, 3) ∧ 9 + 3 = 12 := ⟨dcAll_e (i := 5) da_X1_subtractLimbs_0 rfl, rfl⟩
theorem q_X1_subtractLimbs_12 : decode M_X1_subtractLimbs.2.1 12 = .ok (.invokevirtual 37, 3) ∧ 12 + 3 = 15 := ⟨dcAll_e (i := 6) da_X1_subtractLimbs_0 rfl, rfl⟩
theorem g_X1_subtractLimbs_12 : en_C M_X1_subtractLimbs M_X1_extend 37 1 := ⟨⟨inT2 98 rfl rfl, in_X1, cd_X1_extend⟩, ⟨by decide, by decide, by decide +kernel⟩, by decide, by decide⟩
theorem q_X1_subtractLimbs_15 : decode M_X1_subtractLimbs.2.1 15 = .ok (.iconst 0, 1) ∧ 15 + 1 = 16 := ⟨dcAll_e (i := 7) da_X1_subtractLimbs_0 rfl, rfl⟩
theorem q_X1_subtractLimbs_16 : decode M_X1_subtractLimbs.2.1 16 = .ok (.istore 4, 2) ∧ 16 + 2 = 18 := ⟨dcAll_e (i := 8) da_X1_subtractLimbs_0 rfl, rfl⟩
theorem q_X1_subtractLimbs_18 : decode M_X1_subtractLimbs.2.1 18 = .ok (.iconst 0, 1) ∧ 18 + 1 = 19 := ⟨dcAll_e (i := 9) da_X1_subtractLimbs_0 rfl, rfl⟩
theorem q_X1_subtractLimbs_19 : decode M_X1_subtractLimbs.2.1 19 = .ok (.istore 5, 2) ∧ 19 + 2 = 21 := ⟨dcAll_e (i := 10) da_X1_subtractLimbs_0 rfl, rfl⟩
theorem q_X1_subtractLimbs_21 : decode M_X1_subtractLimbs.2.1 21 = .ok (.iload 5, 2) ∧ 21 + 2 = 23 := ⟨dcAll_e (i := 11) da_X1_subtractLimbs_0 rfl, rfl⟩
theorem q_X1_subtractLimbs_23 : decode M_X1_subtractLimbs.2.1 23 = .ok (.aload_n 0, 1) ∧ 23 + 1 = 24 := ⟨dcAll_e (i := 12) da_X1_subtractLimbs_0 rfl, rfl⟩
theorem q_X1_subtractLimbs_24 : decode M_X1_subtractLimbs.2.1 24 = .ok (.getfield 15, 3) ∧ 24 + 3 = 27 := ⟨dcAll_e (i := 13) da_X1_subtractLimbs_0 rfl, rfl⟩
theorem q_X1_subtractLimbs_27 : decode M_X1_subtractLimbs.2.1 27 = .ok (.if_icmp .ge 75, 3) ∧ 27 + 3 = 30 ∧ ((27 : Nat) : Int) + 75 = ((102 : Nat) : Int) := ⟨dcAll_e (i := 14) da_X1_subtractLimbs_0 rfl, rfl, rfl⟩
theorem q_X1_subtractLimbs_30 : decode M_X1_subtractLimbs.2.1 30 = .ok (.iload 5, 2) ∧ 30 + 2 = 32 := ⟨dcAll_e (i := 15) da_X1_subtractLimbs_0 rfl, rfl⟩
theorem q_X1_subtractLimbs_32 : decode M_X1_subtractLimbs.2.1 32 = .ok (.aload_n 1, 1) ∧ 32 + 1 = 33 := ⟨dcAll_e (i := 16) da_X1_subtractLimbs_0 rfl, rfl⟩
theorem q_X1_subtractLimbs_33 : decode M_X1_subtractLimbs.2.1 33 = .ok (.getfield 15, 3) ∧ 33 + 3 = 36 := ⟨dcAll_e (i := 17) da_X1_subtractLimbs_0 rfl, rfl⟩
theorem q_X1_subtractLimbs_36 : decode M_X1_subtractLimbs.2.1 36 = .ok (.if_icmp .ge 13, 3) ∧ 36 + 3 = 39 ∧ ((36 : Nat) : Int) + 13 = ((49 : Nat) : Int) := ⟨dcAll_e (i := 18) da_X1_subtractLimbs_0 rfl, rfl, rfl⟩
theorem q_X1_subtractLimbs_39 : decode M_X1_subtractLimbs.2.1 39 = .ok (.aload_n 1, 1) ∧ 39 + 1 = 40 := ⟨dcAll_e (i := 19) da_X1_subtractLimbs_0 rfl, rfl⟩
theorem q_X1_subtractLimbs_40 : decode M_X1_subtractLimbs.2.1 40 = .ok (.getfield 11, 3) ∧ 40 + 3 = 43 := ⟨dcAll_e (i := 20) da_X1_subtractLimbs_0 rfl, rfl⟩
theorem q_X1_subtractLimbs_43 : decode M_X1_subtractLimbs.2.1 43 = .ok (.iload 5, 2) ∧ 43 + 2 = 45 := ⟨dcAll_e (i := 21) da_X1_subtractLimbs_0 rfl, rfl⟩
theorem q_X1_subtractLimbs_45 : decode M_X1_subtractLimbs.2.1 45 = .ok (.iaload, 1) ∧ 45 + 1 = 46 := ⟨dcAll_e (i := 22) da_X1_subtractLimbs_0 rfl, rfl⟩
theorem q_X1_subtractLimbs_46 : decode M_X1_subtractLimbs.2.1 46 = .ok (.goto 4, 3) ∧ 46 + 3 = 49 ∧ ((46 : Nat) : Int) + 4 = ((50 : Nat) : Int) := ⟨dcAll_e (i := 23) da_X1_subtractLimbs_0 rfl, rfl, rfl⟩
theorem q_X1_subtractLimbs_49 : decode M_X1_subtractLimbs.2.1 49 = .ok (.iconst 0, 1) ∧ 49 + 1 = 50 := ⟨dcAll_e (i := 24) da_X1_subtractLimbs_0 rfl, rfl⟩
theorem q_X1_subtractLimbs_50 : decode M_X1_subtractLimbs.2.1 50 = .ok (.istore 6, 2) ∧ 50 + 2 = 52 := ⟨dcAll_e (i := 25) da_X1_subtractLimbs_0 rfl, rfl⟩
theorem q_X1_subtractLimbs_52 : decode M_X1_subtractLimbs.2.1 52 = .ok (.iload_n 2, 1) ∧ 52 + 1 = 53 := ⟨dcAll_e (i := 26) da_X1_subtractLimbs_0 rfl, rfl⟩
theorem q_X1_subtractLimbs_53 : decode M_X1_subtractLimbs.2.1 53 = .ok (.aload_n 0, 1) ∧ 53 + 1 = 54 := ⟨dcAll_e (i := 27) da_X1_subtractLimbs_0 rfl, rfl⟩
theorem q_X1_subtractLimbs_54 : decode M_X1_subtractLimbs.2.1 54 = .ok (.getfield 11, 3) ∧ 54 + 3 = 57 := ⟨dcAll_e (i := 28) da_X1_subtractLimbs_0 rfl, rfl⟩
theorem q_X1_subtractLimbs_57 : decode M_X1_subtractLimbs.2.1 57 = .ok (.iload 5, 2) ∧ 57 + 2 = 59 := ⟨dcAll_e (i := 29) da_X1_subtractLimbs_0 rfl, rfl⟩
theorem q_X1_subtractLimbs_59 : decode M_X1_subtractLimbs.2.1 59 = .ok (.iaload, 1) ∧ 59 + 1 = 60 := ⟨dcAll_e (i := 30) da_X1_subtractLimbs_0 rfl, rfl⟩
theorem q_X1_subtractLimbs_60 : decode M_X1_subtractLimbs.2.1 60 = .ok (.iload 6, 2) ∧ 60 + 2 = 62 := ⟨dcAll_e (i := 31) da_X1_subtractLimbs_0 rfl, rfl⟩
theorem q_X1_subtractLimbs_62 : decode M_X1_subtractLimbs.2.1 62 = .ok (.isub, 1) ∧ 62 + 1 = 63 := ⟨dcAll_e (i := 32) da_X1_subtractLimbs_0 rfl, rfl⟩
theorem q_X1_subtractLimbs_63 : decode M_X1_subtractLimbs.2.1 63 = .ok (.imul, 1) ∧ 63 + 1 = 64 := ⟨dcAll_e (i := 33) da_X1_subtractLimbs_0 rfl, rfl⟩
theorem q_X1_subtractLimbs_64 : decode M_X1_subtractLimbs.2.1 64 = .ok (.iload 4, 2) ∧ 64 + 2 = 66 := ⟨dcAll_e (i := 34) da_X1_subtractLimbs_0 rfl, rfl⟩
theorem q_X1_subtractLimbs_66 : decode M_X1_subtractLimbs.2.1 66 = .ok (.isub, 1) ∧ 66 + 1 = 67 := ⟨dcAll_e (i := 35) da_X1_subtractLimbs_0 rfl, rfl⟩
theorem q_X1_subtractLimbs_67 : decode M_X1_subtractLimbs.2.1 67 = .ok (.istore 7, 2) ∧ 67 + 2 = 69 := ⟨dcAll_e (i := 36) da_X1_subtractLimbs_0 rfl, rfl⟩
theorem q_X1_subtractLimbs_69 : decode M_X1_subtractLimbs.2.1 69 = .ok (.iload 7, 2) ∧ 69 + 2 = 71 := ⟨dcAll_e (i := 37) da_X1_subtractLimbs_0 rfl, rfl⟩
theorem q_X1_subtractLimbs_71 : decode M_X1_subtractLimbs.2.1 71 = .ok (.ifCond .ge 7, 3) ∧ 71 + 3 = 74 ∧ ((71 : Nat) : Int) + 7 = ((78 : Nat) : Int) := ⟨dcAll_e (i := 38) da_X1_subtractLimbs_0 rfl, rfl, rfl⟩
theorem q_X1_subtractLimbs_74 : decode M_X1_subtractLimbs.2.1 74 = .ok (.iconst 1, 1) ∧ 74 + 1 = 75 := ⟨dcAll_e (i := 39) da_X1_subtractLimbs_0 rfl, rfl⟩
theorem q_X1_subtractLimbs_75 : decode M_X1_subtractLimbs.2.1 75 = .ok (.goto 4, 3) ∧ 75 + 3 = 78 ∧ ((75 : Nat) : Int) + 4 = ((79 : Nat) : Int) := ⟨dcAll_e (i := 0) da_X1_subtractLimbs_1 rfl, rfl, rfl⟩
theorem q_X1_subtractLimbs_78 : decode M_X1_subtractLimbs.2.1 78 = .ok (.iconst 0, 1) ∧ 78 + 1 = 79 := ⟨dcAll_e (i := 1) da_X1_subtractLimbs_1 rfl, rfl⟩
theorem q_X1_subtractLimbs_79 : decode M_X1_subtractLimbs.2.1 79 = .ok (.istore 4, 2) ∧ 79 + 2 = 81 := ⟨dcAll_e (i := 2) da_X1_subtractLimbs_1 rfl, rfl⟩
theorem q_X1_subtractLimbs_81 : decode M_X1_subtractLimbs.2.1 81 = .ok (.aload_n 0, 1) ∧ 81 + 1 = 82 := ⟨dcAll_e (i := 3) da_X1_subtractLimbs_1 rfl, rfl⟩
theorem q_X1_subtractLimbs_82 : decode M_X1_subtractLimbs.2.1 82 = .ok (.getfield 11, 3) ∧ 82 + 3 = 85 := ⟨dcAll_e (i := 4) da_X1_subtractLimbs_1 rfl, rfl⟩
theorem q_X1_subtractLimbs_85 : decode M_X1_subtractLimbs.2.1 85 = .ok (.iload 5, 2) ∧ 85 + 2 = 87 := ⟨dcAll_e (i := 5) da_X1_subtractLimbs_1 rfl, rfl⟩
theorem q_X1_subtractLimbs_87 : decode M_X1_subtractLimbs.2.1 87 = .ok (.iload 7, 2) ∧ 87 + 2 = 89 := ⟨dcAll_e (i := 6) da_X1_subtractLimbs_1 rfl, rfl⟩
theorem q_X1_subtractLimbs_89 : decode M_X1_subtractLimbs.2.1 89 = .ok (.iload 4, 2) ∧ 89 + 2 = 91 := ⟨dcAll_e (i := 7) da_X1_subtractLimbs_1 rfl, rfl⟩
theorem q_X1_subtractLimbs_91 : decode M_X1_subtractLimbs.2.1 91 = .ok (.ldc 86, 2) ∧ 91 + 2 = 93 := ⟨dcAll_e (i := 8) da_X1_subtractLimbs_1 rfl, rfl⟩
theorem q_X1_subtractLimbs_93 : decode M_X1_subtractLimbs.2.1 93 = .ok (.imul, 1) ∧ 93 + 1 = 94 := ⟨dcAll_e (i := 9) da_X1_subtractLimbs_1 rfl, rfl⟩
theorem q_X1_subtractLimbs_94 : decode M_X1_subtractLimbs.2.1 94 = .ok (.iadd, 1) ∧ 94 + 1 = 95 := ⟨dcAll_e (i := 10) da_X1_subtractLimbs_1 rfl, rfl⟩
theorem q_X1_subtractLimbs_95 : decode M_X1_subtractLimbs.2.1 95 = .ok (.iastore, 1) ∧ 95 + 1 = 96 := ⟨dcAll_e (i := 11) da_X1_subtractLimbs_1 rfl, rfl⟩
theorem q_X1_subtractLimbs_96 : decode M_X1_subtractLimbs.2.1 96 = .ok (.iinc 5 1, 3) ∧ 96 + 3 = 99 := ⟨dcAll_e (i := 12) da_X1_subtractLimbs_1 rfl, rfl⟩
theorem q_X1_subtractLimbs_99 : decode M_X1_subtractLimbs.2.1 99 = .ok (.goto (-78), 3) ∧ 99 + 3 = 102 ∧ ((99 : Nat) : Int) + (-78) = ((21 : Nat) : Int) := ⟨dcAll_e (i := 13) da_X1_subtractLimbs_1 rfl, rfl, rfl⟩
theorem q_X1_subtractLimbs_102 : decode M_X1_subtractLimbs.2.1 102 = .ok (.aload_n 0, 1) ∧ 102 + 1 = 103 := ⟨dcAll_e (i := 14) da_X1_subtractLimbs_1 rfl, rfl⟩
theorem q_X1_subtractLimbs_103 : decode M_X1_subtractLimbs.2.1 103 = .ok (.iload_n 3, 1) ∧ 103 + 1 = 104 := ⟨dcAll_e (i := 15) da_X1_subtractLimbs_1 rfl, rfl⟩
theorem q_X1_subtractLimbs_104 : decode M_X1_subtractLimbs.2.1 104 = .ok (.invokevirtual 52, 3) ∧ 104 + 3 = 107 := ⟨dcAll_e (i := 16) da_X1_subtractLimbs_1 rfl, rfl⟩
theorem g_X1_subtractLimbs_104 : en_C M_X1_subtractLimbs M_X1_trim 52 1 := ⟨⟨inT2 122 rfl rfl, in_X1, cd_X1_trim⟩, ⟨by decide, by decide, by decide +kernel⟩, by decide, by decide⟩
theorem q_X1_subtractLimbs_107 : decode M_X1_subtractLimbs.2.1 107 = .ok (.return_, 1) ∧ 107 + 1 = 108 := ⟨dcAll_e (i := 17) da_X1_subtractLimbs_1 rfl, rfl⟩
def dl_X1_multiplySmall_0 : List (Nat × Instr × Nat) := [(0, .aload_n 0, 1), (1, .aload_n 0, 1), (2, .getfield 15, 3), (5, .iconst 1, 1), (6, .iadd, 1), (7, .invokevirtual 37, 3), (10, .aload_n 0, 1), (11, .lload_n 1, 1), (12, .invokevirtual 87, 3), (15, .aload_n 0, 1), (16, .aload_n 0, 1), (17, .getfield 34, 3), (20, .invokevirtual 52, 3), (23, .return_, 1)]
theorem da_X1_multiplySmall_0 : dcAll M_X1_multiplySmall.2.1 dl_X1_multiplySmall_0 = true := by decide +kernel
theorem q_X1_multiplySmall_0 : decode M_X1_multiplySmall.2.1 0 = .ok (.aload_n 0, 1) ∧ 0 + 1 = 1 := ⟨dcAll_e (i := 0) da_X1_multiplySmall_0 rfl, rfl⟩
theorem q_X1_multiplySmall_1 : decode M_X1_multiplySmall.2.1 1 = .ok (.aload_n 0, 1) ∧ 1 + 1 = 2 := ⟨dcAll_e (i := 1) da_X1_multiplySmall_0 rfl, rfl⟩
theorem q_X1_multiplySmall_2 : decode M_X1_multiplySmall.2.1 2 = .ok (.getfield 15, 3) ∧ 2 + 3 = 5 := ⟨dcAll_e (i := 2) da_X1_multiplySmall_0 rfl, rfl⟩
theorem q_X1_multiplySmall_5 : decode M_X1_multiplySmall.2.1 5 = .ok (.iconst 1, 1) ∧ 5 + 1 = 6 := ⟨dcAll_e (i := 3) da_X1_multiplySmall_0 rfl, rfl⟩
theorem q_X1_multiplySmall_6 : decode M_X1_multiplySmall.2.1 6 = .ok (.iadd, 1) ∧ 6 + 1 = 7 := ⟨dcAll_e (i := 4) da_X1_multiplySmall_0 rfl, rfl⟩
theorem q_X1_multiplySmall_7 : decode M_X1_multiplySmall.2.1 7 = .ok (.invokevirtual 37, 3) ∧ 7 + 3 = 10 := ⟨dcAll_e (i := 5) da_X1_multiplySmall_0 rfl, rfl⟩
theorem g_X1_multiplySmall_7 : en_C M_X1_multiplySmall M_X1_extend 37 1 := ⟨⟨inT2 98 rfl rfl, in_X1, cd_X1_extend⟩, ⟨by decide, by decide, by decide +kernel⟩, by decide, by decide⟩
theorem q_X1_multiplySmall_10 : decode M_X1_multiplySmall.2.1 10 = .ok (.aload_n 0, 1) ∧ 10 + 1 = 11 := ⟨dcAll_e (i := 6) da_X1_multiplySmall_0 rfl, rfl⟩
theorem q_X1_multiplySmall_11 : decode M_X1_multiplySmall.2.1 11 = .ok (.lload_n 1, 1) ∧ 11 + 1 = 12 := ⟨dcAll_e (i := 7) da_X1_multiplySmall_0 rfl, rfl⟩
theorem q_X1_multiplySmall_12 : decode M_X1_multiplySmall.2.1 12 = .ok (.invokevirtual 87, 3) ∧ 12 + 3 = 15 := ⟨dcAll_e (i := 8) da_X1_multiplySmall_0 rfl, rfl⟩
theorem cd_X1_multiplyLimbs : Cond.code M_X1_multiplyLimbs.1 M_X1_multiplyLimbs.2.1 M_X1_multiplyLimbs.2.2.1 M_X1_multiplyLimbs.2.2.2.1 ∈ en_tbl := inT2 147 rfl rfl
theorem g_X1_multiplySmall_12 : en_C M_X1_multiplySmall M_X1_multiplyLimbs 87 1 := ⟨⟨inT2 144 rfl rfl, in_X1, cd_X1_multiplyLimbs⟩, ⟨by decide, by decide, by decide +kernel⟩, by decide, by decide⟩
theorem w_X1_multiplyLimbs : Cond.instanceMethod M_X1_multiplyLimbs.1 ∈ en_tbl ∧ Cond.selects M_X1_multiplyLimbs.1.cls M_X1_multiplyLimbs.1 M_X1_multiplyLimbs.1 ∈ en_tbl := ⟨inT2 145 rfl rfl, inT2 146 rfl rfl⟩
theorem q_X1_multiplySmall_15 : decode M_X1_multiplySmall.2.1 15 = .ok (.aload_n 0, 1) ∧ 15 + 1 = 16 := ⟨dcAll_e (i := 9) da_X1_multiplySmall_0 rfl, rfl⟩
theorem q_X1_multiplySmall_16 : decode M_X1_multiplySmall.2.1 16 = .ok (.aload_n 0, 1) ∧ 16 + 1 = 17 := ⟨dcAll_e (i := 10) da_X1_multiplySmall_0 rfl, rfl⟩
theorem q_X1_multiplySmall_17 : decode M_X1_multiplySmall.2.1 17 = .ok (.getfield 34, 3) ∧ 17 + 3 = 20 := ⟨dcAll_e (i := 11) da_X1_multiplySmall_0 rfl, rfl⟩
theorem q_X1_multiplySmall_20 : decode M_X1_multiplySmall.2.1 20 = .ok (.invokevirtual 52, 3) ∧ 20 + 3 = 23 := ⟨dcAll_e (i := 12) da_X1_multiplySmall_0 rfl, rfl⟩
theorem g_X1_multiplySmall_20 : en_C M_X1_multiplySmall M_X1_trim 52 1 := ⟨⟨inT2 122 rfl rfl, in_X1, cd_X1_trim⟩, ⟨by decide, by decide, by decide +kernel⟩, by decide, by decide⟩
theorem q_X1_multiplySmall_23 : decode M_X1_multiplySmall.2.1 23 = .ok (.return_, 1) ∧ 23 + 1 = 24 := ⟨dcAll_e (i := 13) da_X1_multiplySmall_0 rfl, rfl⟩
def dl_X1_multiplyLimbs_0 : List (Nat × Instr × Nat) := [(0, .lconst 0, 1), (1, .lstore_n 3, 1), (2, .iconst 0, 1), (3, .istore 5, 2), (5, .iload 5, 2), (7, .aload_n 0, 1), (8, .getfield 15, 3), (11, .if_icmp .ge 46, 3), (14, .aload_n 0, 1), (15, .getfield 11, 3), (18, .iload 5, 2), (20, .iaload, 1), (21, .i2l, 1), (22, .lload_n 1, 1), (23, .lmul, 1), (24, .lload_n 3, 1), (25, .ladd, 1), (26, .lstore 6, 2), (28, .lload 6, 2), (30, .ldc2_w 50, 3), (33, .ldiv, 1), (34, .lstore_n 3, 1), (35, .aload_n 0, 1), (36, .getfield 11, 3), (39, .iload 5, 2), (41, .lload 6, 2), (43, .lload_n 3, 1), (44, .ldc2_w 50, 3), (47, .lmul, 1), (48, .lsub, 1), (49, .l2i, 1), (50, .iastore, 1), (51, .iinc 5 1, 3), (54, .goto (-49), 3), (57, .return_, 1)]
theorem da_X1_multiplyLimbs_0 : dcAll M_X1_multiplyLimbs.2.1 dl_X1_multiplyLimbs_0 = true := by decide +kernel
theorem q_X1_multiplyLimbs_0 : decode M_X1_multiplyLimbs.2.1 0 = .ok (.lconst 0, 1) ∧ 0 + 1 = 1 := ⟨dcAll_e (i := 0) da_X1_multiplyLimbs_0 rfl, rfl⟩
theorem q_X1_multiplyLimbs_1 : decode M_X1_multiplyLimbs.2.1 1 = .ok (.lstore_n 3, 1) ∧ 1 + 1 = 2 := ⟨dcAll_e (i := 1) da_X1_multiplyLimbs_0 rfl, rfl⟩
theorem q_X1_multiplyLimbs_2 : decode M_X1_multiplyLimbs.2.1 2 = .ok (.iconst 0, 1) ∧ 2 + 1 = 3 := ⟨dcAll_e (i := 2) da_X1_multiplyLimbs_0 rfl, rfl⟩
theorem q_X1_multiplyLimbs_3 : decode M_X1_multiplyLimbs.2.1 3 = .ok (.istore 5, 2) ∧ 3 + 2 = 5 := ⟨dcAll_e (i := 3) da_X1_multiplyLimbs_0 rfl, rfl⟩
theorem q_X1_multiplyLimbs_5 : decode M_X1_multiplyLimbs.2.1 5 = .ok (.iload 5, 2) ∧ 5 + 2 = 7 := ⟨dcAll_e (i := 4) da_X1_multiplyLimbs_0 rfl, rfl⟩
theorem q_X1_multiplyLimbs_7 : decode M_X1_multiplyLimbs.2.1 7 = .ok (.aload_n 0, 1) ∧ 7 + 1 = 8 := ⟨dcAll_e (i := 5) da_X1_multiplyLimbs_0 rfl, rfl⟩
theorem q_X1_multiplyLimbs_8 : decode M_X1_multiplyLimbs.2.1 8 = .ok (.getfield 15, 3) ∧ 8 + 3 = 11 := ⟨dcAll_e (i := 6) da_X1_multiplyLimbs_0 rfl, rfl⟩
theorem q_X1_multiplyLimbs_11 : decode M_X1_multiplyLimbs.2.1 11 = .ok (.if_icmp .ge 46, 3) ∧ 11 + 3 = 14 ∧ ((11 : Nat) : Int) + 46 = ((57 : Nat) : Int) := ⟨dcAll_e (i := 7) da_X1_multiplyLimbs_0 rfl, rfl, rfl⟩
theorem q_X1_multiplyLimbs_14 : decode M_X1_multiplyLimbs.2.1 14 = .ok (.aload_n 0, 1) ∧ 14 + 1 = 15 := ⟨dcAll_e (i := 8) da_X1_multiplyLimbs_0 rfl, rfl⟩
theorem q_X1_multiplyLimbs_15 : decode M_X1_multiplyLimbs.2.1 15 = .ok (.getfield 11, 3) ∧ 15 + 3 = 18 := ⟨dcAll_e (i := 9) da_X1_multiplyLimbs_0 rfl, rfl⟩
theorem q_X1_multiplyLimbs_18 : decode M_X1_multiplyLimbs.2.1 18 = .ok (.iload 5, 2) ∧ 18 + 2 = 20 := ⟨dcAll_e (i := 10) da_X1_multiplyLimbs_0 rfl, rfl⟩
theorem q_X1_multiplyLimbs_20 : decode M_X1_multiplyLimbs.2.1 20 = .ok (.iaload, 1) ∧ 20 + 1 = 21 := ⟨dcAll_e (i := 11) da_X1_multiplyLimbs_0 rfl, rfl⟩
theorem q_X1_multiplyLimbs_21 : decode M_X1_multiplyLimbs.2.1 21 = .ok (.i2l, 1) ∧ 21 + 1 = 22 := ⟨dcAll_e (i := 12) da_X1_multiplyLimbs_0 rfl, rfl⟩
theorem q_X1_multiplyLimbs_22 : decode M_X1_multiplyLimbs.2.1 22 = .ok (.lload_n 1, 1) ∧ 22 + 1 = 23 := ⟨dcAll_e (i := 13) da_X1_multiplyLimbs_0 rfl, rfl⟩
theorem q_X1_multiplyLimbs_23 : decode M_X1_multiplyLimbs.2.1 23 = .ok (.lmul, 1) ∧ 23 + 1 = 24 := ⟨dcAll_e (i := 14) da_X1_multiplyLimbs_0 rfl, rfl⟩
theorem q_X1_multiplyLimbs_24 : decode M_X1_multiplyLimbs.2.1 24 = .ok (.lload_n 3, 1) ∧ 24 + 1 = 25 := ⟨dcAll_e (i := 15) da_X1_multiplyLimbs_0 rfl, rfl⟩
theorem q_X1_multiplyLimbs_25 : decode M_X1_multiplyLimbs.2.1 25 = .ok (.ladd, 1) ∧ 25 + 1 = 26 := ⟨dcAll_e (i := 16) da_X1_multiplyLimbs_0 rfl, rfl⟩
theorem q_X1_multiplyLimbs_26 : decode M_X1_multiplyLimbs.2.1 26 = .ok (.lstore 6, 2) ∧ 26 + 2 = 28 := ⟨dcAll_e (i := 17) da_X1_multiplyLimbs_0 rfl, rfl⟩
theorem q_X1_multiplyLimbs_28 : decode M_X1_multiplyLimbs.2.1 28 = .ok (.lload 6, 2) ∧ 28 + 2 = 30 := ⟨dcAll_e (i := 18) da_X1_multiplyLimbs_0 rfl, rfl⟩
theorem q_X1_multiplyLimbs_30 : decode M_X1_multiplyLimbs.2.1 30 = .ok (.ldc2_w 50, 3) ∧ 30 + 3 = 33 := ⟨dcAll_e (i := 19) da_X1_multiplyLimbs_0 rfl, rfl⟩
theorem q_X1_multiplyLimbs_33 : decode M_X1_multiplyLimbs.2.1 33 = .ok (.ldiv, 1) ∧ 33 + 1 = 34 := ⟨dcAll_e (i := 20) da_X1_multiplyLimbs_0 rfl, rfl⟩
theorem q_X1_multiplyLimbs_34 : decode M_X1_multiplyLimbs.2.1 34 = .ok (.lstore_n 3, 1) ∧ 34 + 1 = 35 := ⟨dcAll_e (i := 21) da_X1_multiplyLimbs_0 rfl, rfl⟩
theorem q_X1_multiplyLimbs_35 : decode M_X1_multiplyLimbs.2.1 35 = .ok (.aload_n 0, 1) ∧ 35 + 1 = 36 := ⟨dcAll_e (i := 22) da_X1_multiplyLimbs_0 rfl, rfl⟩
theorem q_X1_multiplyLimbs_36 : decode M_X1_multiplyLimbs.2.1 36 = .ok (.getfield 11, 3) ∧ 36 + 3 = 39 := ⟨dcAll_e (i := 23) da_X1_multiplyLimbs_0 rfl, rfl⟩
theorem q_X1_multiplyLimbs_39 : decode M_X1_multiplyLimbs.2.1 39 = .ok (.iload 5, 2) ∧ 39 + 2 = 41 := ⟨dcAll_e (i := 24) da_X1_multiplyLimbs_0 rfl, rfl⟩
theorem q_X1_multiplyLimbs_41 : decode M_X1_multiplyLimbs.2.1 41 = .ok (.lload 6, 2) ∧ 41 + 2 = 43 := ⟨dcAll_e (i := 25) da_X1_multiplyLimbs_0 rfl, rfl⟩
theorem q_X1_multiplyLimbs_43 : decode M_X1_multiplyLimbs.2.1 43 = .ok (.lload_n 3, 1) ∧ 43 + 1 = 44 := ⟨dcAll_e (i := 26) da_X1_multiplyLimbs_0 rfl, rfl⟩
theorem q_X1_multiplyLimbs_44 : decode M_X1_multiplyLimbs.2.1 44 = .ok (.ldc2_w 50, 3) ∧ 44 + 3 = 47 := ⟨dcAll_e (i := 27) da_X1_multiplyLimbs_0 rfl, rfl⟩
theorem q_X1_multiplyLimbs_47 : decode M_X1_multiplyLimbs.2.1 47 = .ok (.lmul, 1) ∧ 47 + 1 = 48 := ⟨dcAll_e (i := 28) da_X1_multiplyLimbs_0 rfl, rfl⟩
theorem q_X1_multiplyLimbs_48 : decode M_X1_multiplyLimbs.2.1 48 = .ok (.lsub, 1) ∧ 48 + 1 = 49 := ⟨dcAll_e (i := 29) da_X1_multiplyLimbs_0 rfl, rfl⟩
theorem q_X1_multiplyLimbs_49 : decode M_X1_multiplyLimbs.2.1 49 = .ok (.l2i, 1) ∧ 49 + 1 = 50 := ⟨dcAll_e (i := 30) da_X1_multiplyLimbs_0 rfl, rfl⟩
theorem q_X1_multiplyLimbs_50 : decode M_X1_multiplyLimbs.2.1 50 = .ok (.iastore, 1) ∧ 50 + 1 = 51 := ⟨dcAll_e (i := 31) da_X1_multiplyLimbs_0 rfl, rfl⟩
theorem q_X1_multiplyLimbs_51 : decode M_X1_multiplyLimbs.2.1 51 = .ok (.iinc 5 1, 3) ∧ 51 + 3 = 54 := ⟨dcAll_e (i := 32) da_X1_multiplyLimbs_0 rfl, rfl⟩
theorem q_X1_multiplyLimbs_54 : decode M_X1_multiplyLimbs.2.1 54 = .ok (.goto (-49), 3) ∧ 54 + 3 = 57 ∧ ((54 : Nat) : Int) + (-49) = ((5 : Nat) : Int) := ⟨dcAll_e (i := 33) da_X1_multiplyLimbs_0 rfl, rfl, rfl⟩
theorem q_X1_multiplyLimbs_57 : decode M_X1_multiplyLimbs.2.1 57 = .ok (.return_, 1) ∧ 57 + 1 = 58 := ⟨dcAll_e (i := 34) da_X1_multiplyLimbs_0 rfl, rfl⟩
def dl_X1_divideSmall_0 : List (Nat × Instr × Nat) := [(0, .lload_n 1, 1), (1, .lconst 1, 1), (2, .lcmp, 1), (3, .ifCond .ge 5, 3), (6, .lconst 0, 1), (7, .lreturn, 1), (8, .lconst 0, 1), (9, .lstore_n 3, 1), (10, .aload_n 0, 1), (11, .getfield 15, 3), (14, .iconst 1, 1), (15, .isub, 1), (16, .istore 5, 2), (18, .iload 5, 2), (20, .ifCond .lt 49, 3), (23, .lload_n 3, 1), (24, .ldc2_w 50, 3), (27, .lmul, 1), (28, .aload_n 0, 1), (29, .getfield 11, 3), (32, .iload 5, 2), (34, .iaload, 1), (35, .i2l, 1), (36, .ladd, 1), (37, .lstore 6, 2), (39, .lload 6, 2), (41, .lload_n 1, 1), (42, .ldiv, 1), (43, .lstore 8, 2), (45, .aload_n 0, 1), (46, .getfield 11, 3), (49, .iload 5, 2), (51, .lload 8, 2), (53, .l2i, 1), (54, .iastore, 1), (55, .lload 6, 2), (57, .lload 8, 2), (59, .lload_n 1, 1), (60, .lmul, 1), (61, .lsub, 1)]
theorem da_X1_divideSmall_0 : dcAll M_X1_divideSmall.2.1 dl_X1_divideSmall_0 = true := by decide +kernel
def dl_X1_divideSmall_1 : List (Nat × Instr × Nat) := [(62, .lstore_n 3, 1), (63, .iinc 5 (-1), 3), (66, .goto (-48), 3), (69, .aload_n 0, 1), (70, .aload_n 0, 1), (71, .getfield 34, 3), (74, .invokevirtual 52, 3), (77, .lload_n 3, 1), (78, .lreturn, 1)]
theorem da_X1_divideSmall_1 : dcAll M_X1_divideSmall.2.1 dl_X1_divideSmall_1 = true := by decide +kernel
theorem q_X1_divideSmall_0 : decode M_X1_divideSmall.2.1 0 = .ok (.lload_n 1, 1) ∧ 0 + 1 = 1 := ⟨dcAll_e (i := 0) da_X1_divideSmall_0 rfl, rfl⟩
theorem q_X1_divideSmall_1 : decode M_X1_divideSmall.2.1 1 = .ok (.lconst 1, 1) ∧ 1 + 1 = 2 := ⟨dcAll_e (i := 1) da_X1_divideSmall_0 rfl, rfl⟩
theorem q_X1_divideSmall_2 : decode M_X1_divideSmall.2.1 2 = .ok (.lcmp, 1) ∧ 2 + 1 = 3 := ⟨dcAll_e (i := 2) da_X1_divideSmall_0 rfl, rfl⟩
theorem q_X1_divideSmall_3 : decode M_X1_divideSmall.2.1 3 = .ok (.ifCond .ge 5, 3) ∧ 3 + 3 = 6 ∧ ((3 : Nat) : Int) + 5 = ((8 : Nat) : Int) := ⟨dcAll_e (i := 3) da_X1_divideSmall_0 rfl, rfl, rfl⟩
theorem q_X1_divideSmall_6 : decode M_X1_divideSmall.2.1 6 = .ok (.lconst 0, 1) ∧ 6 + 1 = 7 := ⟨dcAll_e (i := 4) da_X1_divideSmall_0 rfl, rfl⟩
theorem q_X1_divideSmall_7 : decode M_X1_divideSmall.2.1 7 = .ok (.lreturn, 1) ∧ 7 + 1 = 8 := ⟨dcAll_e (i := 5) da_X1_divideSmall_0 rfl, rfl⟩
theorem q_X1_divideSmall_8 : decode M_X1_divideSmall.2.1 8 = .ok (.lconst 0, 1) ∧ 8 + 1 = 9 := ⟨dcAll_e (i := 6) da_X1_divideSmall_0 rfl, rfl⟩
theorem q_X1_divideSmall_9 : decode M_X1_divideSmall.2.1 9 = .ok (.lstore_n 3, 1) ∧ 9 + 1 = 10 := ⟨dcAll_e (i := 7) da_X1_divideSmall_0 rfl, rfl⟩
theorem q_X1_divideSmall_10 : decode M_X1_divideSmall.2.1 10 = .ok (.aload_n 0, 1) ∧ 10 + 1 = 11 := ⟨dcAll_e (i := 8) da_X1_divideSmall_0 rfl, rfl⟩
theorem q_X1_divideSmall_11 : decode M_X1_divideSmall.2.1 11 = .ok (.getfield 15, 3) ∧ 11 + 3 = 14 := ⟨dcAll_e (i := 9) da_X1_divideSmall_0 rfl, rfl⟩
theorem q_X1_divideSmall_14 : decode M_X1_divideSmall.2.1 14 = .ok (.iconst 1, 1) ∧ 14 + 1 = 15 := ⟨dcAll_e (i := 10) da_X1_divideSmall_0 rfl, rfl⟩
theorem q_X1_divideSmall_15 : decode M_X1_divideSmall.2.1 15 = .ok (.isub, 1) ∧ 15 + 1 = 16 := ⟨dcAll_e (i := 11) da_X1_divideSmall_0 rfl, rfl⟩
theorem q_X1_divideSmall_16 : decode M_X1_divideSmall.2.1 16 = .ok (.istore 5, 2) ∧ 16 + 2 = 18 := ⟨dcAll_e (i := 12) da_X1_divideSmall_0 rfl, rfl⟩
theorem q_X1_divideSmall_18 : decode M_X1_divideSmall.2.1 18 = .ok (.iload 5, 2) ∧ 18 + 2 = 20 := ⟨dcAll_e (i := 13) da_X1_divideSmall_0 rfl, rfl⟩
theorem q_X1_divideSmall_20 : decode M_X1_divideSmall.2.1 20 = .ok (.ifCond .lt 49, 3) ∧ 20 + 3 = 23 ∧ ((20 : Nat) : Int) + 49 = ((69 : Nat) : Int) := ⟨dcAll_e (i := 14) da_X1_divideSmall_0 rfl, rfl, rfl⟩
theorem q_X1_divideSmall_23 : decode M_X1_divideSmall.2.1 23 = .ok (.lload_n 3, 1) ∧ 23 + 1 = 24 := ⟨dcAll_e (i := 15) da_X1_divideSmall_0 rfl, rfl⟩
theorem q_X1_divideSmall_24 : decode M_X1_divideSmall.2.1 24 = .ok (.ldc2_w 50, 3) ∧ 24 + 3 = 27 := ⟨dcAll_e (i := 16) da_X1_divideSmall_0 rfl, rfl⟩
theorem q_X1_divideSmall_27 : decode M_X1_divideSmall.2.1 27 = .ok (.lmul, 1) ∧ 27 + 1 = 28 := ⟨dcAll_e (i := 17) da_X1_divideSmall_0 rfl, rfl⟩
theorem q_X1_divideSmall_28 : decode M_X1_divideSmall.2.1 28 = .ok (.aload_n 0, 1) ∧ 28 + 1 = 29 := ⟨dcAll_e (i := 18) da_X1_divideSmall_0 rfl, rfl⟩
theorem q_X1_divideSmall_29 : decode M_X1_divideSmall.2.1 29 = .ok (.getfield 11, 3) ∧ 29 + 3 = 32 := ⟨dcAll_e (i := 19) da_X1_divideSmall_0 rfl, rfl⟩
theorem q_X1_divideSmall_32 : decode M_X1_divideSmall.2.1 32 = .ok (.iload 5, 2) ∧ 32 + 2 = 34 := ⟨dcAll_e (i := 20) da_X1_divideSmall_0 rfl, rfl⟩
theorem q_X1_divideSmall_34 : decode M_X1_divideSmall.2.1 34 = .ok (.iaload, 1) ∧ 34 + 1 = 35 := ⟨dcAll_e (i := 21) da_X1_divideSmall_0 rfl, rfl⟩
theorem q_X1_divideSmall_35 : decode M_X1_divideSmall.2.1 35 = .ok (.i2l, 1) ∧ 35 + 1 = 36 := ⟨dcAll_e (i := 22) da_X1_divideSmall_0 rfl, rfl⟩
theorem q_X1_divideSmall_36 : decode M_X1_divideSmall.2.1 36 = .ok (.ladd, 1) ∧ 36 + 1 = 37 := ⟨dcAll_e (i := 23) da_X1_divideSmall_0 rfl, rfl⟩
theorem q_X1_divideSmall_37 : decode M_X1_divideSmall.2.1 37 = .ok (.lstore 6, 2) ∧ 37 + 2 = 39 := ⟨dcAll_e (i := 24) da_X1_divideSmall_0 rfl, rfl⟩
theorem q_X1_divideSmall_39 : decode M_X1_divideSmall.2.1 39 = .ok (.lload 6, 2) ∧ 39 + 2 = 41 := ⟨dcAll_e (i := 25) da_X1_divideSmall_0 rfl, rfl⟩
theorem q_X1_divideSmall_41 : decode M_X1_divideSmall.2.1 41 = .ok (.lload_n 1, 1) ∧ 41 + 1 = 42 := ⟨dcAll_e (i := 26) da_X1_divideSmall_0 rfl, rfl⟩
theorem q_X1_divideSmall_42 : decode M_X1_divideSmall.2.1 42 = .ok (.ldiv, 1) ∧ 42 + 1 = 43 := ⟨dcAll_e (i := 27) da_X1_divideSmall_0 rfl, rfl⟩
theorem q_X1_divideSmall_43 : decode M_X1_divideSmall.2.1 43 = .ok (.lstore 8, 2) ∧ 43 + 2 = 45 := ⟨dcAll_e (i := 28) da_X1_divideSmall_0 rfl, rfl⟩
theorem q_X1_divideSmall_45 : decode M_X1_divideSmall.2.1 45 = .ok (.aload_n 0, 1) ∧ 45 + 1 = 46 := ⟨dcAll_e (i := 29) da_X1_divideSmall_0 rfl, rfl⟩
theorem q_X1_divideSmall_46 : decode M_X1_divideSmall.2.1 46 = .ok (.getfield 11, 3) ∧ 46 + 3 = 49 := ⟨dcAll_e (i := 30) da_X1_divideSmall_0 rfl, rfl⟩
theorem q_X1_divideSmall_49 : decode M_X1_divideSmall.2.1 49 = .ok (.iload 5, 2) ∧ 49 + 2 = 51 := ⟨dcAll_e (i := 31) da_X1_divideSmall_0 rfl, rfl⟩
theorem q_X1_divideSmall_51 : decode M_X1_divideSmall.2.1 51 = .ok (.lload 8, 2) ∧ 51 + 2 = 53 := ⟨dcAll_e (i := 32) da_X1_divideSmall_0 rfl, rfl⟩
theorem q_X1_divideSmall_53 : decode M_X1_divideSmall.2.1 53 = .ok (.l2i, 1) ∧ 53 + 1 = 54 := ⟨dcAll_e (i := 33) da_X1_divideSmall_0 rfl, rfl⟩
theorem q_X1_divideSmall_54 : decode M_X1_divideSmall.2.1 54 = .ok (.iastore, 1) ∧ 54 + 1 = 55 := ⟨dcAll_e (i := 34) da_X1_divideSmall_0 rfl, rfl⟩
theorem q_X1_divideSmall_55 : decode M_X1_divideSmall.2.1 55 = .ok (.lload 6, 2) ∧ 55 + 2 = 57 := ⟨dcAll_e (i := 35) da_X1_divideSmall_0 rfl, rfl⟩
theorem q_X1_divideSmall_57 : decode M_X1_divideSmall.2.1 57 = .ok (.lload 8, 2) ∧ 57 + 2 = 59 := ⟨dcAll_e (i := 36) da_X1_divideSmall_0 rfl, rfl⟩
theorem q_X1_divideSmall_59 : decode M_X1_divideSmall.2.1 59 = .ok (.lload_n 1, 1) ∧ 59 + 1 = 60 := ⟨dcAll_e (i := 37) da_X1_divideSmall_0 rfl, rfl⟩
theorem q_X1_divideSmall_60 : decode M_X1_divideSmall.2.1 60 = .ok (.lmul, 1) ∧ 60 + 1 = 61 := ⟨dcAll_e (i := 38) da_X1_divideSmall_0 rfl, rfl⟩
theorem q_X1_divideSmall_61 : decode M_X1_divideSmall.2.1 61 = .ok (.lsub, 1) ∧ 61 + 1 = 62 := ⟨dcAll_e (i := 39) da_X1_divideSmall_0 rfl, rfl⟩
theorem q_X1_divideSmall_62 : decode M_X1_divideSmall.2.1 62 = .ok (.lstore_n 3, 1) ∧ 62 + 1 = 63 := ⟨dcAll_e (i := 0) da_X1_divideSmall_1 rfl, rfl⟩
theorem q_X1_divideSmall_63 : decode M_X1_divideSmall.2.1 63 = .ok (.iinc 5 (-1), 3) ∧ 63 + 3 = 66 := ⟨dcAll_e (i := 1) da_X1_divideSmall_1 rfl, rfl⟩
theorem q_X1_divideSmall_66 : decode M_X1_divideSmall.2.1 66 = .ok (.goto (-48), 3) ∧ 66 + 3 = 69 ∧ ((66 : Nat) : Int) + (-48) = ((18 : Nat) : Int) := ⟨dcAll_e (i := 2) da_X1_divideSmall_1 rfl, rfl, rfl⟩
theorem q_X1_divideSmall_69 : decode M_X1_divideSmall.2.1 69 = .ok (.aload_n 0, 1) ∧ 69 + 1 = 70 := ⟨dcAll_e (i := 3) da_X1_divideSmall_1 rfl, rfl⟩
theorem q_X1_divideSmall_70 : decode M_X1_divideSmall.2.1 70 = .ok (.aload_n 0, 1) ∧ 70 + 1 = 71 := ⟨dcAll_e (i := 4) da_X1_divideSmall_1 rfl, rfl⟩
theorem q_X1_divideSmall_71 : decode M_X1_divideSmall.2.1 71 = .ok (.getfield 34, 3) ∧ 71 + 3 = 74 := ⟨dcAll_e (i := 5) da_X1_divideSmall_1 rfl, rfl⟩
theorem q_X1_divideSmall_74 : decode M_X1_divideSmall.2.1 74 = .ok (.invokevirtual 52, 3) ∧ 74 + 3 = 77 := ⟨dcAll_e (i := 6) da_X1_divideSmall_1 rfl, rfl⟩
theorem g_X1_divideSmall_74 : en_C M_X1_divideSmall M_X1_trim 52 1 := ⟨⟨inT2 122 rfl rfl, in_X1, cd_X1_trim⟩, ⟨by decide, by decide, by decide +kernel⟩, by decide, by decide⟩
theorem q_X1_divideSmall_77 : decode M_X1_divideSmall.2.1 77 = .ok (.lload_n 3, 1) ∧ 77 + 1 = 78 := ⟨dcAll_e (i := 7) da_X1_divideSmall_1 rfl, rfl⟩
theorem q_X1_divideSmall_78 : decode M_X1_divideSmall.2.1 78 = .ok (.lreturn, 1) ∧ 78 + 1 = 79 := ⟨dcAll_e (i := 8) da_X1_divideSmall_1 rfl, rfl⟩
def dl_X1_setProduct_0 : List (Nat × Instr × Nat) := [(0, .aload_n 0, 1), (1, .invokevirtual 47, 3), (4, .aload_n 0, 1), (5, .aload_n 1, 1), (6, .getfield 15, 3), (9, .aload_n 2, 1), (10, .getfield 15, 3), (13, .iadd, 1), (14, .invokevirtual 37, 3), (17, .iconst 0, 1), (18, .istore_n 3, 1), (19, .iload_n 3, 1), (20, .aload_n 1, 1), (21, .getfield 15, 3), (24, .if_icmp .ge 114, 3), (27, .aload_n 1, 1), (28, .getfield 11, 3), (31, .iload_n 3, 1), (32, .iaload, 1), (33, .i2l, 1), (34, .lstore 4, 2), (36, .lconst 0, 1), (37, .lstore 6, 2), (39, .iconst 0, 1), (40, .istore 8, 2), (42, .iload 8, 2), (44, .aload_n 2, 1), (45, .getfield 15, 3), (48, .if_icmp .ge 70, 3), (51, .lload 4, 2), (53, .lconst 0, 1), (54, .lcmp, 1), (55, .ifCond .eq 63, 3), (58, .lload 4, 2), (60, .aload_n 2, 1), (61, .getfield 11, 3), (64, .iload 8, 2), (66, .iaload, 1), (67, .i2l, 1), (68, .lmul, 1)]
theorem da_X1_setProduct_0 : dcAll M_X1_setProduct.2.1 dl_X1_setProduct_0 = true := by decide +kernel
def dl_X1_setProduct_1 : List (Nat × Instr × Nat) := [(69, .aload_n 0, 1), (70, .getfield 11, 3), (73, .iload_n 3, 1), (74, .iload 8, 2), (76, .iadd, 1), (77, .iaload, 1), (78, .i2l, 1), (79, .ladd, 1), (80, .lload 6, 2), (82, .ladd, 1), (83, .lstore 9, 2), (85, .lload 9, 2), (87, .ldc2_w 50, 3), (90, .ldiv, 1), (91, .lstore 6, 2), (93, .aload_n 0, 1), (94, .getfield 11, 3), (97, .iload_n 3, 1), (98, .iload 8, 2), (100, .iadd, 1), (101, .lload 9, 2), (103, .lload 6, 2), (105, .ldc2_w 50, 3), (108, .lmul, 1), (109, .lsub, 1), (110, .l2i, 1), (111, .iastore, 1), (112, .iinc 8 1, 3), (115, .goto (-73), 3), (118, .aload_n 0, 1), (119, .getfield 11, 3), (122, .iload_n 3, 1), (123, .aload_n 2, 1), (124, .getfield 15, 3), (127, .iadd, 1), (128, .lload 6, 2), (130, .l2i, 1), (131, .iastore, 1), (132, .iinc 3 1, 3), (135, .goto (-116), 3)]
theorem da_X1_setProduct_1 : dcAll M_X1_setProduct.2.1 dl_X1_setProduct_1 = true := by decide +kernel
def dl_X1_setProduct_2 : List (Nat × Instr × Nat) := [(138, .aload_n 0, 1), (139, .aload_n 1, 1), (140, .getfield 34, 3), (143, .aload_n 2, 1), (144, .getfield 34, 3), (147, .imul, 1), (148, .invokevirtual 52, 3), (151, .return_, 1)]
theorem da_X1_setProduct_2 : dcAll M_X1_setProduct.2.1 dl_X1_setProduct_2 = true := by decide +kernel
theorem q_X1_setProduct_0 : decode M_X1_setProduct.2.1 0 = .ok (.aload_n 0, 1) ∧ 0 + 1 = 1 := ⟨dcAll_e (i := 0) da_X1_setProduct_0 rfl, rfl⟩
theorem q_X1_setProduct_1 : decode M_X1_setProduct.2.1 1 = .ok (.invokevirtual 47, 3) ∧ 1 + 3 = 4 := ⟨dcAll_e (i := 1) da_X1_setProduct_0 rfl, rfl⟩
theorem g_X1_setProduct_1 : en_C M_X1_setProduct M_X1_clear 47 0 := ⟨⟨inT2 94 rfl rfl, in_X1, cd_X1_clear⟩, ⟨by decide, by decide, by decide +kernel⟩, by decide, by decide⟩
theorem q_X1_setProduct_4 : decode M_X1_setProduct.2.1 4 = .ok (.aload_n 0, 1) ∧ 4 + 1 = 5 := ⟨dcAll_e (i := 2) da_X1_setProduct_0 rfl, rfl⟩
theorem q_X1_setProduct_5 : decode M_X1_setProduct.2.1 5 = .ok (.aload_n 1, 1) ∧ 5 + 1 = 6 := ⟨dcAll_e (i := 3) da_X1_setProduct_0 rfl, rfl⟩
theorem q_X1_setProduct_6 : decode M_X1_setProduct.2.1 6 = .ok (.getfield 15, 3) ∧ 6 + 3 = 9 := ⟨dcAll_e (i := 4) da_X1_setProduct_0 rfl, rfl⟩
theorem q_X1_setProduct_9 : decode M_X1_setProduct.2.1 9 = .ok (.aload_n 2, 1) ∧ 9 + 1 = 10 := ⟨dcAll_e (i := 5) da_X1_setProduct_0 rfl, rfl⟩
theorem q_X1_setProduct_10 : decode M_X1_setProduct.2.1 10 = .ok (.getfield 15, 3) ∧ 10 + 3 = 13 := ⟨dcAll_e (i := 6) da_X1_setProduct_0 rfl, rfl⟩
theorem q_X1_setProduct_13 : decode M_X1_setProduct.2.1 13 = .ok (.iadd, 1) ∧ 13 + 1 = 14 := ⟨dcAll_e (i := 7) da_X1_setProduct_0 rfl, rfl⟩
theorem q_X1_setProduct_14 : decode M_X1_setProduct.2.1 14 = .ok (.invokevirtual 37, 3) ∧ 14 + 3 = 17 := ⟨dcAll_e (i := 8) da_X1_setProduct_0 rfl, rfl⟩
theorem g_X1_setProduct_14 : en_C M_X1_setProduct M_X1_extend 37 1 := ⟨⟨inT2 98 rfl rfl, in_X1, cd_X1_extend⟩, ⟨by decide, by decide, by decide +kernel⟩, by decide, by decide⟩
theorem q_X1_setProduct_17 : decode M_X1_setProduct.2.1 17 = .ok (.iconst 0, 1) ∧ 17 + 1 = 18 := ⟨dcAll_e (i := 9) da_X1_setProduct_0 rfl, rfl⟩
theorem q_X1_setProduct_18 : decode M_X1_setProduct.2.1 18 = .ok (.istore_n 3, 1) ∧ 18 + 1 = 19 := ⟨dcAll_e (i := 10) da_X1_setProduct_0 rfl, rfl⟩
theorem q_X1_setProduct_19 : decode M_X1_setProduct.2.1 19 = .ok (.iload_n 3, 1) ∧ 19 + 1 = 20 := ⟨dcAll_e (i := 11) da_X1_setProduct_0 rfl, rfl⟩
theorem q_X1_setProduct_20 : decode M_X1_setProduct.2.1 20 = .ok (.aload_n 1, 1) ∧ 20 + 1 = 21 := ⟨dcAll_e (i := 12) da_X1_setProduct_0 rfl, rfl⟩
theorem q_X1_setProduct_21 : decode M_X1_setProduct.2.1 21 = .ok (.getfield 15, 3) ∧ 21 + 3 = 24 := ⟨dcAll_e (i := 13) da_X1_setProduct_0 rfl, rfl⟩
theorem q_X1_setProduct_24 : decode M_X1_setProduct.2.1 24 = .ok (.if_icmp .ge 114, 3) ∧ 24 + 3 = 27 ∧ ((24 : Nat) : Int) + 114 = ((138 : Nat) : Int) := ⟨dcAll_e (i := 14) da_X1_setProduct_0 rfl, rfl, rfl⟩
theorem q_X1_setProduct_27 : decode M_X1_setProduct.2.1 27 = .ok (.aload_n 1, 1) ∧ 27 + 1 = 28 := ⟨dcAll_e (i := 15) da_X1_setProduct_0 rfl, rfl⟩
theorem q_X1_setProduct_28 : decode M_X1_setProduct.2.1 28 = .ok (.getfield 11, 3) ∧ 28 + 3 = 31 := ⟨dcAll_e (i := 16) da_X1_setProduct_0 rfl, rfl⟩
theorem q_X1_setProduct_31 : decode M_X1_setProduct.2.1 31 = .ok (.iload_n 3, 1) ∧ 31 + 1 = 32 := ⟨dcAll_e (i := 17) da_X1_setProduct_0 rfl, rfl⟩
theorem q_X1_setProduct_32 : decode M_X1_setProduct.2.1 32 = .ok (.iaload, 1) ∧ 32 + 1 = 33 := ⟨dcAll_e (i := 18) da_X1_setProduct_0 rfl, rfl⟩
theorem q_X1_setProduct_33 : decode M_X1_setProduct.2.1 33 = .ok (.i2l, 1) ∧ 33 + 1 = 34 := ⟨dcAll_e (i := 19) da_X1_setProduct_0 rfl, rfl⟩
theorem q_X1_setProduct_34 : decode M_X1_setProduct.2.1 34 = .ok (.lstore 4, 2) ∧ 34 + 2 = 36 := ⟨dcAll_e (i := 20) da_X1_setProduct_0 rfl, rfl⟩
theorem q_X1_setProduct_36 : decode M_X1_setProduct.2.1 36 = .ok (.lconst 0, 1) ∧ 36 + 1 = 37 := ⟨dcAll_e (i := 21) da_X1_setProduct_0 rfl, rfl⟩
theorem q_X1_setProduct_37 : decode M_X1_setProduct.2.1 37 = .ok (.lstore 6, 2) ∧ 37 + 2 = 39 := ⟨dcAll_e (i := 22) da_X1_setProduct_0 rfl, rfl⟩
theorem q_X1_setProduct_39 : decode M_X1_setProduct.2.1 39 = .ok (.iconst 0, 1) ∧ 39 + 1 = 40 := ⟨dcAll_e (i := 23) da_X1_setProduct_0 rfl, rfl⟩
theorem q_X1_setProduct_40 : decode M_X1_setProduct.2.1 40 = .ok (.istore 8, 2) ∧ 40 + 2 = 42 := ⟨dcAll_e (i := 24) da_X1_setProduct_0 rfl, rfl⟩
theorem q_X1_setProduct_42 : decode M_X1_setProduct.2.1 42 = .ok (.iload 8, 2) ∧ 42 + 2 = 44 := ⟨dcAll_e (i := 25) da_X1_setProduct_0 rfl, rfl⟩
theorem q_X1_setProduct_44 : decode M_X1_setProduct.2.1 44 = .ok (.aload_n 2, 1) ∧ 44 + 1 = 45 := ⟨dcAll_e (i := 26) da_X1_setProduct_0 rfl, rfl⟩
theorem q_X1_setProduct_45 : decode M_X1_setProduct.2.1 45 = .ok (.getfield 15, 3) ∧ 45 + 3 = 48 := ⟨dcAll_e (i := 27) da_X1_setProduct_0 rfl, rfl⟩
theorem q_X1_setProduct_48 : decode M_X1_setProduct.2.1 48 = .ok (.if_icmp .ge 70, 3) ∧ 48 + 3 = 51 ∧ ((48 : Nat) : Int) + 70 = ((118 : Nat) : Int) := ⟨dcAll_e (i := 28) da_X1_setProduct_0 rfl, rfl, rfl⟩
theorem q_X1_setProduct_51 : decode M_X1_setProduct.2.1 51 = .ok (.lload 4, 2) ∧ 51 + 2 = 53 := ⟨dcAll_e (i := 29) da_X1_setProduct_0 rfl, rfl⟩
theorem q_X1_setProduct_53 : decode M_X1_setProduct.2.1 53 = .ok (.lconst 0, 1) ∧ 53 + 1 = 54 := ⟨dcAll_e (i := 30) da_X1_setProduct_0 rfl, rfl⟩
theorem q_X1_setProduct_54 : decode M_X1_setProduct.2.1 54 = .ok (.lcmp, 1) ∧ 54 + 1 = 55 := ⟨dcAll_e (i := 31) da_X1_setProduct_0 rfl, rfl⟩
theorem q_X1_setProduct_55 : decode M_X1_setProduct.2.1 55 = .ok (.ifCond .eq 63, 3) ∧ 55 + 3 = 58 ∧ ((55 : Nat) : Int) + 63 = ((118 : Nat) : Int) := ⟨dcAll_e (i := 32) da_X1_setProduct_0 rfl, rfl, rfl⟩
theorem q_X1_setProduct_58 : decode M_X1_setProduct.2.1 58 = .ok (.lload 4, 2) ∧ 58 + 2 = 60 := ⟨dcAll_e (i := 33) da_X1_setProduct_0 rfl, rfl⟩
theorem q_X1_setProduct_60 : decode M_X1_setProduct.2.1 60 = .ok (.aload_n 2, 1) ∧ 60 + 1 = 61 := ⟨dcAll_e (i := 34) da_X1_setProduct_0 rfl, rfl⟩
theorem q_X1_setProduct_61 : decode M_X1_setProduct.2.1 61 = .ok (.getfield 11, 3) ∧ 61 + 3 = 64 := ⟨dcAll_e (i := 35) da_X1_setProduct_0 rfl, rfl⟩
theorem q_X1_setProduct_64 : decode M_X1_setProduct.2.1 64 = .ok (.iload 8, 2) ∧ 64 + 2 = 66 := ⟨dcAll_e (i := 36) da_X1_setProduct_0 rfl, rfl⟩
theorem q_X1_setProduct_66 : decode M_X1_setProduct.2.1 66 = .ok (.iaload, 1) ∧ 66 + 1 = 67 := ⟨dcAll_e (i := 37) da_X1_setProduct_0 rfl, rfl⟩
theorem q_X1_setProduct_67 : decode M_X1_setProduct.2.1 67 = .ok (.i2l, 1) ∧ 67 + 1 = 68 := ⟨dcAll_e (i := 38) da_X1_setProduct_0 rfl, rfl⟩
theorem q_X1_setProduct_68 : decode M_X1_setProduct.2.1 68 = .ok (.lmul, 1) ∧ 68 + 1 = 69 := ⟨dcAll_e (i := 39) da_X1_setProduct_0 rfl, rfl⟩
theorem q_X1_setProduct_69 : decode M_X1_setProduct.2.1 69 = .ok (.aload_n 0, 1) ∧ 69 + 1 = 70 := ⟨dcAll_e (i := 0) da_X1_setProduct_1 rfl, rfl⟩
theorem q_X1_setProduct_70 : decode M_X1_setProduct.2.1 70 = .ok (.getfield 11, 3) ∧ 70 + 3 = 73 := ⟨dcAll_e (i := 1) da_X1_setProduct_1 rfl, rfl⟩
theorem q_X1_setProduct_73 : decode M_X1_setProduct.2.1 73 = .ok (.iload_n 3, 1) ∧ 73 + 1 = 74 := ⟨dcAll_e (i := 2) da_X1_setProduct_1 rfl, rfl⟩
theorem q_X1_setProduct_74 : decode M_X1_setProduct.2.1 74 = .ok (.iload 8, 2) ∧ 74 + 2 = 76 := ⟨dcAll_e (i := 3) da_X1_setProduct_1 rfl, rfl⟩
theorem q_X1_setProduct_76 : decode M_X1_setProduct.2.1 76 = .ok (.iadd, 1) ∧ 76 + 1 = 77 := ⟨dcAll_e (i := 4) da_X1_setProduct_1 rfl, rfl⟩
theorem q_X1_setProduct_77 : decode M_X1_setProduct.2.1 77 = .ok (.iaload, 1) ∧ 77 + 1 = 78 := ⟨dcAll_e (i := 5) da_X1_setProduct_1 rfl, rfl⟩
theorem q_X1_setProduct_78 : decode M_X1_setProduct.2.1 78 = .ok (.i2l, 1) ∧ 78 + 1 = 79 := ⟨dcAll_e (i := 6) da_X1_setProduct_1 rfl, rfl⟩
theorem q_X1_setProduct_79 : decode M_X1_setProduct.2.1 79 = .ok (.ladd, 1) ∧ 79 + 1 = 80 := ⟨dcAll_e (i := 7) da_X1_setProduct_1 rfl, rfl⟩
theorem q_X1_setProduct_80 : decode M_X1_setProduct.2.1 80 = .ok (.lload 6, 2) ∧ 80 + 2 = 82 := ⟨dcAll_e (i := 8) da_X1_setProduct_1 rfl, rfl⟩
theorem q_X1_setProduct_82 : decode M_X1_setProduct.2.1 82 = .ok (.ladd, 1) ∧ 82 + 1 = 83 := ⟨dcAll_e (i := 9) da_X1_setProduct_1 rfl, rfl⟩
theorem q_X1_setProduct_83 : decode M_X1_setProduct.2.1 83 = .ok (.lstore 9, 2) ∧ 83 + 2 = 85 := ⟨dcAll_e (i := 10) da_X1_setProduct_1 rfl, rfl⟩
theorem q_X1_setProduct_85 : decode M_X1_setProduct.2.1 85 = .ok (.lload 9, 2) ∧ 85 + 2 = 87 := ⟨dcAll_e (i := 11) da_X1_setProduct_1 rfl, rfl⟩
theorem q_X1_setProduct_87 : decode M_X1_setProduct.2.1 87 = .ok (.ldc2_w 50, 3) ∧ 87 + 3 = 90 := ⟨dcAll_e (i := 12) da_X1_setProduct_1 rfl, rfl⟩
theorem q_X1_setProduct_90 : decode M_X1_setProduct.2.1 90 = .ok (.ldiv, 1) ∧ 90 + 1 = 91 := ⟨dcAll_e (i := 13) da_X1_setProduct_1 rfl, rfl⟩
theorem q_X1_setProduct_91 : decode M_X1_setProduct.2.1 91 = .ok (.lstore 6, 2) ∧ 91 + 2 = 93 := ⟨dcAll_e (i := 14) da_X1_setProduct_1 rfl, rfl⟩
theorem q_X1_setProduct_93 : decode M_X1_setProduct.2.1 93 = .ok (.aload_n 0, 1) ∧ 93 + 1 = 94 := ⟨dcAll_e (i := 15) da_X1_setProduct_1 rfl, rfl⟩
theorem q_X1_setProduct_94 : decode M_X1_setProduct.2.1 94 = .ok (.getfield 11, 3) ∧ 94 + 3 = 97 := ⟨dcAll_e (i := 16) da_X1_setProduct_1 rfl, rfl⟩
theorem q_X1_setProduct_97 : decode M_X1_setProduct.2.1 97 = .ok (.iload_n 3, 1) ∧ 97 + 1 = 98 := ⟨dcAll_e (i := 17) da_X1_setProduct_1 rfl, rfl⟩
theorem q_X1_setProduct_98 : decode M_X1_setProduct.2.1 98 = .ok (.iload 8, 2) ∧ 98 + 2 = 100 := ⟨dcAll_e (i := 18) da_X1_setProduct_1 rfl, rfl⟩
theorem q_X1_setProduct_100 : decode M_X1_setProduct.2.1 100 = .ok (.iadd, 1) ∧ 100 + 1 = 101 := ⟨dcAll_e (i := 19) da_X1_setProduct_1 rfl, rfl⟩
theorem q_X1_setProduct_101 : decode M_X1_setProduct.2.1 101 = .ok (.lload 9, 2) ∧ 101 + 2 = 103 := ⟨dcAll_e (i := 20) da_X1_setProduct_1 rfl, rfl⟩
theorem q_X1_setProduct_103 : decode M_X1_setProduct.2.1 103 = .ok (.lload 6, 2) ∧ 103 + 2 = 105 := ⟨dcAll_e (i := 21) da_X1_setProduct_1 rfl, rfl⟩
theorem q_X1_setProduct_105 : decode M_X1_setProduct.2.1 105 = .ok (.ldc2_w 50, 3) ∧ 105 + 3 = 108 := ⟨dcAll_e (i := 22) da_X1_setProduct_1 rfl, rfl⟩
theorem q_X1_setProduct_108 : decode M_X1_setProduct.2.1 108 = .ok (.lmul, 1) ∧ 108 + 1 = 109 := ⟨dcAll_e (i := 23) da_X1_setProduct_1 rfl, rfl⟩
theorem q_X1_setProduct_109 : decode M_X1_setProduct.2.1 109 = .ok (.lsub, 1) ∧ 109 + 1 = 110 := ⟨dcAll_e (i := 24) da_X1_setProduct_1 rfl, rfl⟩
theorem q_X1_setProduct_110 : decode M_X1_setProduct.2.1 110 = .ok (.l2i, 1) ∧ 110 + 1 = 111 := ⟨dcAll_e (i := 25) da_X1_setProduct_1 rfl, rfl⟩
theorem q_X1_setProduct_111 : decode M_X1_setProduct.2.1 111 = .ok (.iastore, 1) ∧ 111 + 1 = 112 := ⟨dcAll_e (i := 26) da_X1_setProduct_1 rfl, rfl⟩
theorem q_X1_setProduct_112 : decode M_X1_setProduct.2.1 112 = .ok (.iinc 8 1, 3) ∧ 112 + 3 = 115 := ⟨dcAll_e (i := 27) da_X1_setProduct_1 rfl, rfl⟩
theorem q_X1_setProduct_115 : decode M_X1_setProduct.2.1 115 = .ok (.goto (-73), 3) ∧ 115 + 3 = 118 ∧ ((115 : Nat) : Int) + (-73) = ((42 : Nat) : Int) := ⟨dcAll_e (i := 28) da_X1_setProduct_1 rfl, rfl, rfl⟩
theorem q_X1_setProduct_118 : decode M_X1_setProduct.2.1 118 = .ok (.aload_n 0, 1) ∧ 118 + 1 = 119 := ⟨dcAll_e (i := 29) da_X1_setProduct_1 rfl, rfl⟩
theorem q_X1_setProduct_119 : decode M_X1_setProduct.2.1 119 = .ok (.getfield 11, 3) ∧ 119 + 3 = 122 := ⟨dcAll_e (i := 30) da_X1_setProduct_1 rfl, rfl⟩
theorem q_X1_setProduct_122 : decode M_X1_setProduct.2.1 122 = .ok (.iload_n 3, 1) ∧ 122 + 1 = 123 := ⟨dcAll_e (i := 31) da_X1_setProduct_1 rfl, rfl⟩
theorem q_X1_setProduct_123 : decode M_X1_setProduct.2.1 123 = .ok (.aload_n 2, 1) ∧ 123 + 1 = 124 := ⟨dcAll_e (i := 32) da_X1_setProduct_1 rfl, rfl⟩
theorem q_X1_setProduct_124 : decode M_X1_setProduct.2.1 124 = .ok (.getfield 15, 3) ∧ 124 + 3 = 127 := ⟨dcAll_e (i := 33) da_X1_setProduct_1 rfl, rfl⟩
theorem q_X1_setProduct_127 : decode M_X1_setProduct.2.1 127 = .ok (.iadd, 1) ∧ 127 + 1 = 128 := ⟨dcAll_e (i := 34) da_X1_setProduct_1 rfl, rfl⟩
theorem q_X1_setProduct_128 : decode M_X1_setProduct.2.1 128 = .ok (.lload 6, 2) ∧ 128 + 2 = 130 := ⟨dcAll_e (i := 35) da_X1_setProduct_1 rfl, rfl⟩
theorem q_X1_setProduct_130 : decode M_X1_setProduct.2.1 130 = .ok (.l2i, 1) ∧ 130 + 1 = 131 := ⟨dcAll_e (i := 36) da_X1_setProduct_1 rfl, rfl⟩
theorem q_X1_setProduct_131 : decode M_X1_setProduct.2.1 131 = .ok (.iastore, 1) ∧ 131 + 1 = 132 := ⟨dcAll_e (i := 37) da_X1_setProduct_1 rfl, rfl⟩
theorem q_X1_setProduct_132 : decode M_X1_setProduct.2.1 132 = .ok (.iinc 3 1, 3) ∧ 132 + 3 = 135 := ⟨dcAll_e (i := 38) da_X1_setProduct_1 rfl, rfl⟩
theorem q_X1_setProduct_135 : decode M_X1_setProduct.2.1 135 = .ok (.goto (-116), 3) ∧ 135 + 3 = 138 ∧ ((135 : Nat) : Int) + (-116) = ((19 : Nat) : Int) := ⟨dcAll_e (i := 39) da_X1_setProduct_1 rfl, rfl, rfl⟩
theorem q_X1_setProduct_138 : decode M_X1_setProduct.2.1 138 = .ok (.aload_n 0, 1) ∧ 138 + 1 = 139 := ⟨dcAll_e (i := 0) da_X1_setProduct_2 rfl, rfl⟩
theorem q_X1_setProduct_139 : decode M_X1_setProduct.2.1 139 = .ok (.aload_n 1, 1) ∧ 139 + 1 = 140 := ⟨dcAll_e (i := 1) da_X1_setProduct_2 rfl, rfl⟩
theorem q_X1_setProduct_140 : decode M_X1_setProduct.2.1 140 = .ok (.getfield 34, 3) ∧ 140 + 3 = 143 := ⟨dcAll_e (i := 2) da_X1_setProduct_2 rfl, rfl⟩
theorem q_X1_setProduct_143 : decode M_X1_setProduct.2.1 143 = .ok (.aload_n 2, 1) ∧ 143 + 1 = 144 := ⟨dcAll_e (i := 3) da_X1_setProduct_2 rfl, rfl⟩
theorem q_X1_setProduct_144 : decode M_X1_setProduct.2.1 144 = .ok (.getfield 34, 3) ∧ 144 + 3 = 147 := ⟨dcAll_e (i := 4) da_X1_setProduct_2 rfl, rfl⟩
theorem q_X1_setProduct_147 : decode M_X1_setProduct.2.1 147 = .ok (.imul, 1) ∧ 147 + 1 = 148 := ⟨dcAll_e (i := 5) da_X1_setProduct_2 rfl, rfl⟩
theorem q_X1_setProduct_148 : decode M_X1_setProduct.2.1 148 = .ok (.invokevirtual 52, 3) ∧ 148 + 3 = 151 := ⟨dcAll_e (i := 6) da_X1_setProduct_2 rfl, rfl⟩
theorem g_X1_setProduct_148 : en_C M_X1_setProduct M_X1_trim 52 1 := ⟨⟨inT2 122 rfl rfl, in_X1, cd_X1_trim⟩, ⟨by decide, by decide, by decide +kernel⟩, by decide, by decide⟩
theorem q_X1_setProduct_151 : decode M_X1_setProduct.2.1 151 = .ok (.return_, 1) ∧ 151 + 1 = 152 := ⟨dcAll_e (i := 7) da_X1_setProduct_2 rfl, rfl⟩
def dl_X1_shiftUp_0 : List (Nat × Instr × Nat) := [(0, .iload_n 1, 1), (1, .ifCond .le 10, 3), (4, .aload_n 0, 1), (5, .getfield 34, 3), (8, .ifCond .ne 4, 3), (11, .return_, 1), (12, .iload_n 1, 1), (13, .bipush 9, 2), (15, .idiv, 1), (16, .istore_n 2, 1), (17, .aload_n 0, 1), (18, .getfield 15, 3), (21, .istore_n 3, 1), (22, .aload_n 0, 1), (23, .iload_n 3, 1), (24, .iload_n 2, 1), (25, .iadd, 1), (26, .invokevirtual 37, 3), (29, .aload_n 0, 1), (30, .getfield 11, 3), (33, .iconst 0, 1), (34, .aload_n 0, 1), (35, .getfield 11, 3), (38, .iload_n 2, 1), (39, .iload_n 3, 1), (40, .invokestatic 41, 3), (43, .aload_n 0, 1), (44, .getfield 11, 3), (47, .iconst 0, 1), (48, .iload_n 2, 1), (49, .iconst 0, 1), (50, .invokestatic 91, 3), (53, .aload_n 0, 1), (54, .getstatic 66, 3), (57, .iload_n 1, 1), (58, .bipush 9, 2), (60, .irem, 1), (61, .iaload, 1), (62, .i2l, 1), (63, .invokevirtual 95, 3)]
theorem da_X1_shiftUp_0 : dcAll M_X1_shiftUp.2.1 dl_X1_shiftUp_0 = true := by decide +kernel
def dl_X1_shiftUp_1 : List (Nat × Instr × Nat) := [(66, .return_, 1)]
theorem da_X1_shiftUp_1 : dcAll M_X1_shiftUp.2.1 dl_X1_shiftUp_1 = true := by decide +kernel
theorem q_X1_shiftUp_0 : decode M_X1_shiftUp.2.1 0 = .ok (.iload_n 1, 1) ∧ 0 + 1 = 1 := ⟨dcAll_e (i := 0) da_X1_shiftUp_0 rfl, rfl⟩
theorem q_X1_shiftUp_1 : decode M_X1_shiftUp.2.1 1 = .ok (.ifCond .le 10, 3) ∧ 1 + 3 = 4 ∧ ((1 : Nat) : Int) + 10 = ((11 : Nat) : Int) := ⟨dcAll_e (i := 1) da_X1_shiftUp_0 rfl, rfl, rfl⟩
theorem q_X1_shiftUp_4 : decode M_X1_shiftUp.2.1 4 = .ok (.aload_n 0, 1) ∧ 4 + 1 = 5 := ⟨dcAll_e (i := 2) da_X1_shiftUp_0 rfl, rfl⟩
theorem q_X1_shiftUp_5 : decode M_X1_shiftUp.2.1 5 = .ok (.getfield 34, 3) ∧ 5 + 3 = 8 := ⟨dcAll_e (i := 3) da_X1_shiftUp_0 rfl, rfl⟩
theorem q_X1_shiftUp_8 : decode M_X1_shiftUp.2.1 8 = .ok (.ifCond .ne 4, 3) ∧ 8 + 3 = 11 ∧ ((8 : Nat) : Int) + 4 = ((12 : Nat) : Int) := ⟨dcAll_e (i := 4) da_X1_shiftUp_0 rfl, rfl, rfl⟩
theorem q_X1_shiftUp_11 : decode M_X1_shiftUp.2.1 11 = .ok (.return_, 1) ∧ 11 + 1 = 12 := ⟨dcAll_e (i := 5) da_X1_shiftUp_0 rfl, rfl⟩
theorem q_X1_shiftUp_12 : decode M_X1_shiftUp.2.1 12 = .ok (.iload_n 1, 1) ∧ 12 + 1 = 13 := ⟨dcAll_e (i := 6) da_X1_shiftUp_0 rfl, rfl⟩
theorem q_X1_shiftUp_13 : decode M_X1_shiftUp.2.1 13 = .ok (.bipush 9, 2) ∧ 13 + 2 = 15 := ⟨dcAll_e (i := 7) da_X1_shiftUp_0 rfl, rfl⟩
theorem q_X1_shiftUp_15 : decode M_X1_shiftUp.2.1 15 = .ok (.idiv, 1) ∧ 15 + 1 = 16 := ⟨dcAll_e (i := 8) da_X1_shiftUp_0 rfl, rfl⟩
theorem q_X1_shiftUp_16 : decode M_X1_shiftUp.2.1 16 = .ok (.istore_n 2, 1) ∧ 16 + 1 = 17 := ⟨dcAll_e (i := 9) da_X1_shiftUp_0 rfl, rfl⟩
theorem q_X1_shiftUp_17 : decode M_X1_shiftUp.2.1 17 = .ok (.aload_n 0, 1) ∧ 17 + 1 = 18 := ⟨dcAll_e (i := 10) da_X1_shiftUp_0 rfl, rfl⟩
theorem q_X1_shiftUp_18 : decode M_X1_shiftUp.2.1 18 = .ok (.getfield 15, 3) ∧ 18 + 3 = 21 := ⟨dcAll_e (i := 11) da_X1_shiftUp_0 rfl, rfl⟩
theorem q_X1_shiftUp_21 : decode M_X1_shiftUp.2.1 21 = .ok (.istore_n 3, 1) ∧ 21 + 1 = 22 := ⟨dcAll_e (i := 12) da_X1_shiftUp_0 rfl, rfl⟩
theorem q_X1_shiftUp_22 : decode M_X1_shiftUp.2.1 22 = .ok (.aload_n 0, 1) ∧ 22 + 1 = 23 := ⟨dcAll_e (i := 13) da_X1_shiftUp_0 rfl, rfl⟩
theorem q_X1_shiftUp_23 : decode M_X1_shiftUp.2.1 23 = .ok (.iload_n 3, 1) ∧ 23 + 1 = 24 := ⟨dcAll_e (i := 14) da_X1_shiftUp_0 rfl, rfl⟩
theorem q_X1_shiftUp_24 : decode M_X1_shiftUp.2.1 24 = .ok (.iload_n 2, 1) ∧ 24 + 1 = 25 := ⟨dcAll_e (i := 15) da_X1_shiftUp_0 rfl, rfl⟩
theorem q_X1_shiftUp_25 : decode M_X1_shiftUp.2.1 25 = .ok (.iadd, 1) ∧ 25 + 1 = 26 := ⟨dcAll_e (i := 16) da_X1_shiftUp_0 rfl, rfl⟩
theorem q_X1_shiftUp_26 : decode M_X1_shiftUp.2.1 26 = .ok (.invokevirtual 37, 3) ∧ 26 + 3 = 29 := ⟨dcAll_e (i := 17) da_X1_shiftUp_0 rfl, rfl⟩
theorem g_X1_shiftUp_26 : en_C M_X1_shiftUp M_X1_extend 37 1 := ⟨⟨inT2 98 rfl rfl, in_X1, cd_X1_extend⟩, ⟨by decide, by decide, by decide +kernel⟩, by decide, by decide⟩
theorem q_X1_shiftUp_29 : decode M_X1_shiftUp.2.1 29 = .ok (.aload_n 0, 1) ∧ 29 + 1 = 30 := ⟨dcAll_e (i := 18) da_X1_shiftUp_0 rfl, rfl⟩
theorem q_X1_shiftUp_30 : decode M_X1_shiftUp.2.1 30 = .ok (.getfield 11, 3) ∧ 30 + 3 = 33 := ⟨dcAll_e (i := 19) da_X1_shiftUp_0 rfl, rfl⟩
theorem q_X1_shiftUp_33 : decode M_X1_shiftUp.2.1 33 = .ok (.iconst 0, 1) ∧ 33 + 1 = 34 := ⟨dcAll_e (i := 20) da_X1_shiftUp_0 rfl, rfl⟩
theorem q_X1_shiftUp_34 : decode M_X1_shiftUp.2.1 34 = .ok (.aload_n 0, 1) ∧ 34 + 1 = 35 := ⟨dcAll_e (i := 21) da_X1_shiftUp_0 rfl, rfl⟩
theorem q_X1_shiftUp_35 : decode M_X1_shiftUp.2.1 35 = .ok (.getfield 11, 3) ∧ 35 + 3 = 38 := ⟨dcAll_e (i := 22) da_X1_shiftUp_0 rfl, rfl⟩
theorem q_X1_shiftUp_38 : decode M_X1_shiftUp.2.1 38 = .ok (.iload_n 2, 1) ∧ 38 + 1 = 39 := ⟨dcAll_e (i := 23) da_X1_shiftUp_0 rfl, rfl⟩
theorem q_X1_shiftUp_39 : decode M_X1_shiftUp.2.1 39 = .ok (.iload_n 3, 1) ∧ 39 + 1 = 40 := ⟨dcAll_e (i := 24) da_X1_shiftUp_0 rfl, rfl⟩
theorem q_X1_shiftUp_40 : decode M_X1_shiftUp.2.1 40 = .ok (.invokestatic 41, 3) ∧ 40 + 3 = 43 := ⟨dcAll_e (i := 25) da_X1_shiftUp_0 rfl, rfl⟩
theorem q_X1_shiftUp_43 : decode M_X1_shiftUp.2.1 43 = .ok (.aload_n 0, 1) ∧ 43 + 1 = 44 := ⟨dcAll_e (i := 26) da_X1_shiftUp_0 rfl, rfl⟩
theorem q_X1_shiftUp_44 : decode M_X1_shiftUp.2.1 44 = .ok (.getfield 11, 3) ∧ 44 + 3 = 47 := ⟨dcAll_e (i := 27) da_X1_shiftUp_0 rfl, rfl⟩
theorem q_X1_shiftUp_47 : decode M_X1_shiftUp.2.1 47 = .ok (.iconst 0, 1) ∧ 47 + 1 = 48 := ⟨dcAll_e (i := 28) da_X1_shiftUp_0 rfl, rfl⟩
theorem q_X1_shiftUp_48 : decode M_X1_shiftUp.2.1 48 = .ok (.iload_n 2, 1) ∧ 48 + 1 = 49 := ⟨dcAll_e (i := 29) da_X1_shiftUp_0 rfl, rfl⟩
theorem q_X1_shiftUp_49 : decode M_X1_shiftUp.2.1 49 = .ok (.iconst 0, 1) ∧ 49 + 1 = 50 := ⟨dcAll_e (i := 30) da_X1_shiftUp_0 rfl, rfl⟩
theorem q_X1_shiftUp_50 : decode M_X1_shiftUp.2.1 50 = .ok (.invokestatic 91, 3) ∧ 50 + 3 = 53 := ⟨dcAll_e (i := 31) da_X1_shiftUp_0 rfl, rfl⟩
theorem cd_J7_fill_fda19 : Cond.code M_J7_fill_fda19.1 M_J7_fill_fda19.2.1 M_J7_fill_fda19.2.2.1 M_J7_fill_fda19.2.2.2.1 ∈ en_tbl := inT2 134 rfl rfl
theorem g_X1_shiftUp_50 : en_C M_X1_shiftUp M_J7_fill_fda19 91 4 := ⟨⟨inT2 132 rfl rfl, by decide +kernel, cd_J7_fill_fda19⟩, ⟨by decide, by decide, by decide +kernel⟩, by decide, by decide⟩
theorem w_J7_fill_fda19 : Cond.static M_J7_fill_fda19.1 ∈ en_tbl := inT2 133 rfl rfl
theorem q_X1_shiftUp_53 : decode M_X1_shiftUp.2.1 53 = .ok (.aload_n 0, 1) ∧ 53 + 1 = 54 := ⟨dcAll_e (i := 32) da_X1_shiftUp_0 rfl, rfl⟩
theorem q_X1_shiftUp_54 : decode M_X1_shiftUp.2.1 54 = .ok (.getstatic 66, 3) ∧ 54 + 3 = 57 := ⟨dcAll_e (i := 33) da_X1_shiftUp_0 rfl, rfl⟩
theorem q_X1_shiftUp_57 : decode M_X1_shiftUp.2.1 57 = .ok (.iload_n 1, 1) ∧ 57 + 1 = 58 := ⟨dcAll_e (i := 34) da_X1_shiftUp_0 rfl, rfl⟩
theorem q_X1_shiftUp_58 : decode M_X1_shiftUp.2.1 58 = .ok (.bipush 9, 2) ∧ 58 + 2 = 60 := ⟨dcAll_e (i := 35) da_X1_shiftUp_0 rfl, rfl⟩
theorem q_X1_shiftUp_60 : decode M_X1_shiftUp.2.1 60 = .ok (.irem, 1) ∧ 60 + 1 = 61 := ⟨dcAll_e (i := 36) da_X1_shiftUp_0 rfl, rfl⟩
theorem q_X1_shiftUp_61 : decode M_X1_shiftUp.2.1 61 = .ok (.iaload, 1) ∧ 61 + 1 = 62 := ⟨dcAll_e (i := 37) da_X1_shiftUp_0 rfl, rfl⟩
theorem q_X1_shiftUp_62 : decode M_X1_shiftUp.2.1 62 = .ok (.i2l, 1) ∧ 62 + 1 = 63 := ⟨dcAll_e (i := 38) da_X1_shiftUp_0 rfl, rfl⟩
theorem q_X1_shiftUp_63 : decode M_X1_shiftUp.2.1 63 = .ok (.invokevirtual 95, 3) ∧ 63 + 3 = 66 := ⟨dcAll_e (i := 39) da_X1_shiftUp_0 rfl, rfl⟩
theorem cd_X1_multiplySmall : Cond.code M_X1_multiplySmall.1 M_X1_multiplySmall.2.1 M_X1_multiplySmall.2.2.1 M_X1_multiplySmall.2.2.2.1 ∈ en_tbl := inT2 143 rfl rfl
theorem g_X1_shiftUp_63 : en_C M_X1_shiftUp M_X1_multiplySmall 95 1 := ⟨⟨inT2 140 rfl rfl, in_X1, cd_X1_multiplySmall⟩, ⟨by decide, by decide, by decide +kernel⟩, by decide, by decide⟩
theorem w_X1_multiplySmall : Cond.instanceMethod M_X1_multiplySmall.1 ∈ en_tbl ∧ Cond.selects M_X1_multiplySmall.1.cls M_X1_multiplySmall.1 M_X1_multiplySmall.1 ∈ en_tbl := ⟨inT2 141 rfl rfl, inT2 142 rfl rfl⟩
theorem q_X1_shiftUp_66 : decode M_X1_shiftUp.2.1 66 = .ok (.return_, 1) ∧ 66 + 1 = 67 := ⟨dcAll_e (i := 0) da_X1_shiftUp_1 rfl, rfl⟩
def dl_X1_shrink_0 : List (Nat × Instr × Nat) := [(0, .iload_n 1, 1), (1, .ifCond .le 10, 3), (4, .aload_n 0, 1), (5, .getfield 34, 3), (8, .ifCond .ne 4, 3), (11, .return_, 1), (12, .aload_n 0, 1), (13, .getfield 34, 3), (16, .istore_n 3, 1), (17, .aload_n 0, 1), (18, .iload_n 1, 1), (19, .bipush 9, 2), (21, .idiv, 1), (22, .invokevirtual 98, 3), (25, .istore 4, 2), (27, .aload_n 0, 1), (28, .getstatic 66, 3), (31, .iload_n 1, 1), (32, .bipush 9, 2), (34, .irem, 1), (35, .iaload, 1), (36, .i2l, 1), (37, .invokevirtual 102, 3), (40, .lconst 0, 1), (41, .lcmp, 1), (42, .ifCond .eq 6, 3), (45, .iconst 1, 1), (46, .istore 4, 2), (48, .iload 4, 2), (50, .ifCond .eq 13, 3), (53, .iload_n 3, 1), (54, .iload_n 2, 1), (55, .if_icmp .ne 8, 3), (58, .aload_n 0, 1), (59, .iload_n 3, 1), (60, .invokevirtual 106, 3), (63, .return_, 1)]
theorem da_X1_shrink_0 : dcAll M_X1_shrink.2.1 dl_X1_shrink_0 = true := by decide +kernel
theorem q_X1_shrink_0 : decode M_X1_shrink.2.1 0 = .ok (.iload_n 1, 1) ∧ 0 + 1 = 1 := ⟨dcAll_e (i := 0) da_X1_shrink_0 rfl, rfl⟩
theorem q_X1_shrink_1 : decode M_X1_shrink.2.1 1 = .ok (.ifCond .le 10, 3) ∧ 1 + 3 = 4 ∧ ((1 : Nat) : Int) + 10 = ((11 : Nat) : Int) := ⟨dcAll_e (i := 1) da_X1_shrink_0 rfl, rfl, rfl⟩
theorem q_X1_shrink_4 : decode M_X1_shrink.2.1 4 = .ok (.aload_n 0, 1) ∧ 4 + 1 = 5 := ⟨dcAll_e (i := 2) da_X1_shrink_0 rfl, rfl⟩
theorem q_X1_shrink_5 : decode M_X1_shrink.2.1 5 = .ok (.getfield 34, 3) ∧ 5 + 3 = 8 := ⟨dcAll_e (i := 3) da_X1_shrink_0 rfl, rfl⟩
theorem q_X1_shrink_8 : decode M_X1_shrink.2.1 8 = .ok (.ifCond .ne 4, 3) ∧ 8 + 3 = 11 ∧ ((8 : Nat) : Int) + 4 = ((12 : Nat) : Int) := ⟨dcAll_e (i := 4) da_X1_shrink_0 rfl, rfl, rfl⟩
theorem q_X1_shrink_11 : decode M_X1_shrink.2.1 11 = .ok (.return_, 1) ∧ 11 + 1 = 12 := ⟨dcAll_e (i := 5) da_X1_shrink_0 rfl, rfl⟩
theorem q_X1_shrink_12 : decode M_X1_shrink.2.1 12 = .ok (.aload_n 0, 1) ∧ 12 + 1 = 13 := ⟨dcAll_e (i := 6) da_X1_shrink_0 rfl, rfl⟩
theorem q_X1_shrink_13 : decode M_X1_shrink.2.1 13 = .ok (.getfield 34, 3) ∧ 13 + 3 = 16 := ⟨dcAll_e (i := 7) da_X1_shrink_0 rfl, rfl⟩
theorem q_X1_shrink_16 : decode M_X1_shrink.2.1 16 = .ok (.istore_n 3, 1) ∧ 16 + 1 = 17 := ⟨dcAll_e (i := 8) da_X1_shrink_0 rfl, rfl⟩
theorem q_X1_shrink_17 : decode M_X1_shrink.2.1 17 = .ok (.aload_n 0, 1) ∧ 17 + 1 = 18 := ⟨dcAll_e (i := 9) da_X1_shrink_0 rfl, rfl⟩
theorem q_X1_shrink_18 : decode M_X1_shrink.2.1 18 = .ok (.iload_n 1, 1) ∧ 18 + 1 = 19 := ⟨dcAll_e (i := 10) da_X1_shrink_0 rfl, rfl⟩
theorem q_X1_shrink_19 : decode M_X1_shrink.2.1 19 = .ok (.bipush 9, 2) ∧ 19 + 2 = 21 := ⟨dcAll_e (i := 11) da_X1_shrink_0 rfl, rfl⟩
theorem q_X1_shrink_21 : decode M_X1_shrink.2.1 21 = .ok (.idiv, 1) ∧ 21 + 1 = 22 := ⟨dcAll_e (i := 12) da_X1_shrink_0 rfl, rfl⟩
theorem q_X1_shrink_22 : decode M_X1_shrink.2.1 22 = .ok (.invokevirtual 98, 3) ∧ 22 + 3 = 25 := ⟨dcAll_e (i := 13) da_X1_shrink_0 rfl, rfl⟩
theorem cd_X1_shiftDown : Cond.code M_X1_shiftDown.1 M_X1_shiftDown.2.1 M_X1_shiftDown.2.2.1 M_X1_shiftDown.2.2.2.1 ∈ en_tbl := inT3 13 rfl rfl
theorem g_X1_shrink_22 : en_C M_X1_shrink M_X1_shiftDown 98 1 := ⟨⟨inT3 10 rfl rfl, in_X1, cd_X1_shiftDown⟩, ⟨by decide, by decide, by decide +kernel⟩, by decide, by decide⟩
theorem w_X1_shiftDown : Cond.instanceMethod M_X1_shiftDown.1 ∈ en_tbl ∧ Cond.selects M_X1_shiftDown.1.cls M_X1_shiftDown.1 M_X1_shiftDown.1 ∈ en_tbl := ⟨inT3 12 rfl rfl, by decide +kernel⟩
theorem q_X1_shrink_25 : decode M_X1_shrink.2.1 25 = .ok (.istore 4, 2) ∧ 25 + 2 = 27 := ⟨dcAll_e (i := 14) da_X1_shrink_0 rfl, rfl⟩
theorem q_X1_shrink_27 : decode M_X1_shrink.2.1 27 = .ok (.aload_n 0, 1) ∧ 27 + 1 = 28 := ⟨dcAll_e (i := 15) da_X1_shrink_0 rfl, rfl⟩
theorem q_X1_shrink_28 : decode M_X1_shrink.2.1 28 = .ok (.getstatic 66, 3) ∧ 28 + 3 = 31 := ⟨dcAll_e (i := 16) da_X1_shrink_0 rfl, rfl⟩
theorem q_X1_shrink_31 : decode M_X1_shrink.2.1 31 = .ok (.iload_n 1, 1) ∧ 31 + 1 = 32 := ⟨dcAll_e (i := 17) da_X1_shrink_0 rfl, rfl⟩
theorem q_X1_shrink_32 : decode M_X1_shrink.2.1 32 = .ok (.bipush 9, 2) ∧ 32 + 2 = 34 := ⟨dcAll_e (i := 18) da_X1_shrink_0 rfl, rfl⟩
theorem q_X1_shrink_34 : decode M_X1_shrink.2.1 34 = .ok (.irem, 1) ∧ 34 + 1 = 35 := ⟨dcAll_e (i := 19) da_X1_shrink_0 rfl, rfl⟩
theorem q_X1_shrink_35 : decode M_X1_shrink.2.1 35 = .ok (.iaload, 1) ∧ 35 + 1 = 36 := ⟨dcAll_e (i := 20) da_X1_shrink_0 rfl, rfl⟩
theorem q_X1_shrink_36 : decode M_X1_shrink.2.1 36 = .ok (.i2l, 1) ∧ 36 + 1 = 37 := ⟨dcAll_e (i := 21) da_X1_shrink_0 rfl, rfl⟩
theorem q_X1_shrink_37 : decode M_X1_shrink.2.1 37 = .ok (.invokevirtual 102, 3) ∧ 37 + 3 = 40 := ⟨dcAll_e (i := 22) da_X1_shrink_0 rfl, rfl⟩
theorem cd_X1_divideSmall : Cond.code M_X1_divideSmall.1 M_X1_divideSmall.2.1 M_X1_divideSmall.2.2.1 M_X1_divideSmall.2.2.2.1 ∈ en_tbl := inT2 176 rfl rfl
theorem g_X1_shrink_37 : en_C M_X1_shrink M_X1_divideSmall 102 1 := ⟨⟨inT3 14 rfl rfl, in_X1, cd_X1_divideSmall⟩, ⟨by decide, by decide, by decide +kernel⟩, by decide, by decide⟩
theorem w_X1_divideSmall : Cond.instanceMethod M_X1_divideSmall.1 ∈ en_tbl ∧ Cond.selects M_X1_divideSmall.1.cls M_X1_divideSmall.1 M_X1_divideSmall.1 ∈ en_tbl := ⟨inT2 174 rfl rfl, inT2 175 rfl rfl⟩
theorem q_X1_shrink_40 : decode M_X1_shrink.2.1 40 = .ok (.lconst 0, 1) ∧ 40 + 1 = 41 := ⟨dcAll_e (i := 23) da_X1_shrink_0 rfl, rfl⟩
theorem q_X1_shrink_41 : decode M_X1_shrink.2.1 41 = .ok (.lcmp, 1) ∧ 41 + 1 = 42 := ⟨dcAll_e (i := 24) da_X1_shrink_0 rfl, rfl⟩
theorem q_X1_shrink_42 : decode M_X1_shrink.2.1 42 = .ok (.ifCond .eq 6, 3) ∧ 42 + 3 = 45 ∧ ((42 : Nat) : Int) + 6 = ((48 : Nat) : Int) := ⟨dcAll_e (i := 25) da_X1_shrink_0 rfl, rfl, rfl⟩
theorem q_X1_shrink_45 : decode M_X1_shrink.2.1 45 = .ok (.iconst 1, 1) ∧ 45 + 1 = 46 := ⟨dcAll_e (i := 26) da_X1_shrink_0 rfl, rfl⟩
theorem q_X1_shrink_46 : decode M_X1_shrink.2.1 46 = .ok (.istore 4, 2) ∧ 46 + 2 = 48 := ⟨dcAll_e (i := 27) da_X1_shrink_0 rfl, rfl⟩
theorem q_X1_shrink_48 : decode M_X1_shrink.2.1 48 = .ok (.iload 4, 2) ∧ 48 + 2 = 50 := ⟨dcAll_e (i := 28) da_X1_shrink_0 rfl, rfl⟩
theorem q_X1_shrink_50 : decode M_X1_shrink.2.1 50 = .ok (.ifCond .eq 13, 3) ∧ 50 + 3 = 53 ∧ ((50 : Nat) : Int) + 13 = ((63 : Nat) : Int) := ⟨dcAll_e (i := 29) da_X1_shrink_0 rfl, rfl, rfl⟩
theorem q_X1_shrink_53 : decode M_X1_shrink.2.1 53 = .ok (.iload_n 3, 1) ∧ 53 + 1 = 54 := ⟨dcAll_e (i := 30) da_X1_shrink_0 rfl, rfl⟩
theorem q_X1_shrink_54 : decode M_X1_shrink.2.1 54 = .ok (.iload_n 2, 1) ∧ 54 + 1 = 55 := ⟨dcAll_e (i := 31) da_X1_shrink_0 rfl, rfl⟩
theorem q_X1_shrink_55 : decode M_X1_shrink.2.1 55 = .ok (.if_icmp .ne 8, 3) ∧ 55 + 3 = 58 ∧ ((55 : Nat) : Int) + 8 = ((63 : Nat) : Int) := ⟨dcAll_e (i := 32) da_X1_shrink_0 rfl, rfl, rfl⟩
theorem q_X1_shrink_58 : decode M_X1_shrink.2.1 58 = .ok (.aload_n 0, 1) ∧ 58 + 1 = 59 := ⟨dcAll_e (i := 33) da_X1_shrink_0 rfl, rfl⟩
theorem q_X1_shrink_59 : decode M_X1_shrink.2.1 59 = .ok (.iload_n 3, 1) ∧ 59 + 1 = 60 := ⟨dcAll_e (i := 34) da_X1_shrink_0 rfl, rfl⟩
theorem q_X1_shrink_60 : decode M_X1_shrink.2.1 60 = .ok (.invokevirtual 106, 3) ∧ 60 + 3 = 63 := ⟨dcAll_e (i := 35) da_X1_shrink_0 rfl, rfl⟩
theorem cd_X1_grow : Cond.code M_X1_grow.1 M_X1_grow.2.1 M_X1_grow.2.2.1 M_X1_grow.2.2.2.1 ∈ en_tbl := inT2 198 rfl rfl
theorem g_X1_shrink_60 : en_C M_X1_shrink M_X1_grow 106 1 := ⟨⟨inT3 15 rfl rfl, in_X1, cd_X1_grow⟩, ⟨by decide, by decide, by decide +kernel⟩, by decide, by decide⟩
theorem w_X1_grow : Cond.instanceMethod M_X1_grow.1 ∈ en_tbl ∧ Cond.selects M_X1_grow.1.cls M_X1_grow.1 M_X1_grow.1 ∈ en_tbl := ⟨inT2 196 rfl rfl, inT2 197 rfl rfl⟩
theorem q_X1_shrink_63 : decode M_X1_shrink.2.1 63 = .ok (.return_, 1) ∧ 63 + 1 = 64 := ⟨dcAll_e (i := 36) da_X1_shrink_0 rfl, rfl⟩
def dl_X1_shiftDown_0 : List (Nat × Instr × Nat) := [(0, .iload_n 1, 1), (1, .aload_n 0, 1), (2, .getfield 15, 3), (5, .invokestatic 31, 3), (8, .istore_n 2, 1), (9, .iconst 0, 1), (10, .istore_n 3, 1), (11, .iconst 0, 1), (12, .istore 4, 2), (14, .iload 4, 2), (16, .iload_n 2, 1), (17, .if_icmp .ge 21, 3), (20, .aload_n 0, 1), (21, .getfield 11, 3), (24, .iload 4, 2), (26, .iaload, 1), (27, .ifCond .eq 5, 3), (30, .iconst 1, 1), (31, .istore_n 3, 1), (32, .iinc 4 1, 3), (35, .goto (-21), 3), (38, .aload_n 0, 1), (39, .getfield 11, 3), (42, .iload_n 2, 1), (43, .aload_n 0, 1), (44, .getfield 11, 3), (47, .iconst 0, 1), (48, .aload_n 0, 1), (49, .getfield 15, 3), (52, .iload_n 2, 1), (53, .isub, 1), (54, .invokestatic 41, 3), (57, .aload_n 0, 1), (58, .dup, 1), (59, .getfield 15, 3), (62, .iload_n 2, 1), (63, .isub, 1), (64, .putfield 15, 3), (67, .aload_n 0, 1), (68, .aload_n 0, 1)]
theorem da_X1_shiftDown_0 : dcAll M_X1_shiftDown.2.1 dl_X1_shiftDown_0 = true := by decide +kernel
def dl_X1_shiftDown_1 : List (Nat × Instr × Nat) := [(69, .getfield 34, 3), (72, .invokevirtual 52, 3), (75, .iload_n 3, 1), (76, .ireturn, 1)]
theorem da_X1_shiftDown_1 : dcAll M_X1_shiftDown.2.1 dl_X1_shiftDown_1 = true := by decide +kernel
theorem q_X1_shiftDown_0 : decode M_X1_shiftDown.2.1 0 = .ok (.iload_n 1, 1) ∧ 0 + 1 = 1 := ⟨dcAll_e (i := 0) da_X1_shiftDown_0 rfl, rfl⟩
theorem q_X1_shiftDown_1 : decode M_X1_shiftDown.2.1 1 = .ok (.aload_n 0, 1) ∧ 1 + 1 = 2 := ⟨dcAll_e (i := 1) da_X1_shiftDown_0 rfl, rfl⟩
theorem q_X1_shiftDown_2 : decode M_X1_shiftDown.2.1 2 = .ok (.getfield 15, 3) ∧ 2 + 3 = 5 := ⟨dcAll_e (i := 2) da_X1_shiftDown_0 rfl, rfl⟩
theorem q_X1_shiftDown_5 : decode M_X1_shiftDown.2.1 5 = .ok (.invokestatic 31, 3) ∧ 5 + 3 = 8 := ⟨dcAll_e (i := 3) da_X1_shiftDown_0 rfl, rfl⟩
theorem q_X1_shiftDown_8 : decode M_X1_shiftDown.2.1 8 = .ok (.istore_n 2, 1) ∧ 8 + 1 = 9 := ⟨dcAll_e (i := 4) da_X1_shiftDown_0 rfl, rfl⟩
theorem q_X1_shiftDown_9 : decode M_X1_shiftDown.2.1 9 = .ok (.iconst 0, 1) ∧ 9 + 1 = 10 := ⟨dcAll_e (i := 5) da_X1_shiftDown_0 rfl, rfl⟩
theorem q_X1_shiftDown_10 : decode M_X1_shiftDown.2.1 10 = .ok (.istore_n 3, 1) ∧ 10 + 1 = 11 := ⟨dcAll_e (i := 6) da_X1_shiftDown_0 rfl, rfl⟩
theorem q_X1_shiftDown_11 : decode M_X1_shiftDown.2.1 11 = .ok (.iconst 0, 1) ∧ 11 + 1 = 12 := ⟨dcAll_e (i := 7) da_X1_shiftDown_0 rfl, rfl⟩
theorem q_X1_shiftDown_12 : decode M_X1_shiftDown.2.1 12 = .ok (.istore 4, 2) ∧ 12 + 2 = 14 := ⟨dcAll_e (i := 8) da_X1_shiftDown_0 rfl, rfl⟩
theorem q_X1_shiftDown_14 : decode M_X1_shiftDown.2.1 14 = .ok (.iload 4, 2) ∧ 14 + 2 = 16 := ⟨dcAll_e (i := 9) da_X1_shiftDown_0 rfl, rfl⟩
theorem q_X1_shiftDown_16 : decode M_X1_shiftDown.2.1 16 = .ok (.iload_n 2, 1) ∧ 16 + 1 = 17 := ⟨dcAll_e (i := 10) da_X1_shiftDown_0 rfl, rfl⟩
theorem q_X1_shiftDown_17 : decode M_X1_shiftDown.2.1 17 = .ok (.if_icmp .ge 21, 3) ∧ 17 + 3 = 20 ∧ ((17 : Nat) : Int) + 21 = ((38 : Nat) : Int) := ⟨dcAll_e (i := 11) da_X1_shiftDown_0 rfl, rfl, rfl⟩
theorem q_X1_shiftDown_20 : decode M_X1_shiftDown.2.1 20 = .ok (.aload_n 0, 1) ∧ 20 + 1 = 21 := ⟨dcAll_e (i := 12) da_X1_shiftDown_0 rfl, rfl⟩
theorem q_X1_shiftDown_21 : decode M_X1_shiftDown.2.1 21 = .ok (.getfield 11, 3) ∧ 21 + 3 = 24 := ⟨dcAll_e (i := 13) da_X1_shiftDown_0 rfl, rfl⟩
theorem q_X1_shiftDown_24 : decode M_X1_shiftDown.2.1 24 = .ok (.iload 4, 2) ∧ 24 + 2 = 26 := ⟨dcAll_e (i := 14) da_X1_shiftDown_0 rfl, rfl⟩
theorem q_X1_shiftDown_26 : decode M_X1_shiftDown.2.1 26 = .ok (.iaload, 1) ∧ 26 + 1 = 27 := ⟨dcAll_e (i := 15) da_X1_shiftDown_0 rfl, rfl⟩
theorem q_X1_shiftDown_27 : decode M_X1_shiftDown.2.1 27 = .ok (.ifCond .eq 5, 3) ∧ 27 + 3 = 30 ∧ ((27 : Nat) : Int) + 5 = ((32 : Nat) : Int) := ⟨dcAll_e (i := 16) da_X1_shiftDown_0 rfl, rfl, rfl⟩
theorem q_X1_shiftDown_30 : decode M_X1_shiftDown.2.1 30 = .ok (.iconst 1, 1) ∧ 30 + 1 = 31 := ⟨dcAll_e (i := 17) da_X1_shiftDown_0 rfl, rfl⟩
theorem q_X1_shiftDown_31 : decode M_X1_shiftDown.2.1 31 = .ok (.istore_n 3, 1) ∧ 31 + 1 = 32 := ⟨dcAll_e (i := 18) da_X1_shiftDown_0 rfl, rfl⟩
theorem q_X1_shiftDown_32 : decode M_X1_shiftDown.2.1 32 = .ok (.iinc 4 1, 3) ∧ 32 + 3 = 35 := ⟨dcAll_e (i := 19) da_X1_shiftDown_0 rfl, rfl⟩
theorem q_X1_shiftDown_35 : decode M_X1_shiftDown.2.1 35 = .ok (.goto (-21), 3) ∧ 35 + 3 = 38 ∧ ((35 : Nat) : Int) + (-21) = ((14 : Nat) : Int) := ⟨dcAll_e (i := 20) da_X1_shiftDown_0 rfl, rfl, rfl⟩
theorem q_X1_shiftDown_38 : decode M_X1_shiftDown.2.1 38 = .ok (.aload_n 0, 1) ∧ 38 + 1 = 39 := ⟨dcAll_e (i := 21) da_X1_shiftDown_0 rfl, rfl⟩
theorem q_X1_shiftDown_39 : decode M_X1_shiftDown.2.1 39 = .ok (.getfield 11, 3) ∧ 39 + 3 = 42 := ⟨dcAll_e (i := 22) da_X1_shiftDown_0 rfl, rfl⟩
theorem q_X1_shiftDown_42 : decode M_X1_shiftDown.2.1 42 = .ok (.iload_n 2, 1) ∧ 42 + 1 = 43 := ⟨dcAll_e (i := 23) da_X1_shiftDown_0 rfl, rfl⟩
theorem q_X1_shiftDown_43 : decode M_X1_shiftDown.2.1 43 = .ok (.aload_n 0, 1) ∧ 43 + 1 = 44 := ⟨dcAll_e (i := 24) da_X1_shiftDown_0 rfl, rfl⟩
theorem q_X1_shiftDown_44 : decode M_X1_shiftDown.2.1 44 = .ok (.getfield 11, 3) ∧ 44 + 3 = 47 := ⟨dcAll_e (i := 25) da_X1_shiftDown_0 rfl, rfl⟩
theorem q_X1_shiftDown_47 : decode M_X1_shiftDown.2.1 47 = .ok (.iconst 0, 1) ∧ 47 + 1 = 48 := ⟨dcAll_e (i := 26) da_X1_shiftDown_0 rfl, rfl⟩
theorem q_X1_shiftDown_48 : decode M_X1_shiftDown.2.1 48 = .ok (.aload_n 0, 1) ∧ 48 + 1 = 49 := ⟨dcAll_e (i := 27) da_X1_shiftDown_0 rfl, rfl⟩
theorem q_X1_shiftDown_49 : decode M_X1_shiftDown.2.1 49 = .ok (.getfield 15, 3) ∧ 49 + 3 = 52 := ⟨dcAll_e (i := 28) da_X1_shiftDown_0 rfl, rfl⟩
theorem q_X1_shiftDown_52 : decode M_X1_shiftDown.2.1 52 = .ok (.iload_n 2, 1) ∧ 52 + 1 = 53 := ⟨dcAll_e (i := 29) da_X1_shiftDown_0 rfl, rfl⟩
theorem q_X1_shiftDown_53 : decode M_X1_shiftDown.2.1 53 = .ok (.isub, 1) ∧ 53 + 1 = 54 := ⟨dcAll_e (i := 30) da_X1_shiftDown_0 rfl, rfl⟩
theorem q_X1_shiftDown_54 : decode M_X1_shiftDown.2.1 54 = .ok (.invokestatic 41, 3) ∧ 54 + 3 = 57 := ⟨dcAll_e (i := 31) da_X1_shiftDown_0 rfl, rfl⟩
theorem q_X1_shiftDown_57 : decode M_X1_shiftDown.2.1 57 = .ok (.aload_n 0, 1) ∧ 57 + 1 = 58 := ⟨dcAll_e (i := 32) da_X1_shiftDown_0 rfl, rfl⟩
theorem q_X1_shiftDown_58 : decode M_X1_shiftDown.2.1 58 = .ok (.dup, 1) ∧ 58 + 1 = 59 := ⟨dcAll_e (i := 33) da_X1_shiftDown_0 rfl, rfl⟩
theorem q_X1_shiftDown_59 : decode M_X1_shiftDown.2.1 59 = .ok (.getfield 15, 3) ∧ 59 + 3 = 62 := ⟨dcAll_e (i := 34) da_X1_shiftDown_0 rfl, rfl⟩
theorem q_X1_shiftDown_62 : decode M_X1_shiftDown.2.1 62 = .ok (.iload_n 2, 1) ∧ 62 + 1 = 63 := ⟨dcAll_e (i := 35) da_X1_shiftDown_0 rfl, rfl⟩
theorem q_X1_shiftDown_63 : decode M_X1_shiftDown.2.1 63 = .ok (.isub, 1) ∧ 63 + 1 = 64 := ⟨dcAll_e (i := 36) da_X1_shiftDown_0 rfl, rfl⟩
theorem q_X1_shiftDown_64 : decode M_X1_shiftDown.2.1 64 = .ok (.putfield 15, 3) ∧ 64 + 3 = 67 := ⟨dcAll_e (i := 37) da_X1_shiftDown_0 rfl, rfl⟩
theorem q_X1_shiftDown_67 : decode M_X1_shiftDown.2.1 67 = .ok (.aload_n 0, 1) ∧ 67 + 1 = 68 := ⟨dcAll_e (i := 38) da_X1_shiftDown_0 rfl, rfl⟩
theorem q_X1_shiftDown_68 : decode M_X1_shiftDown.2.1 68 = .ok (.aload_n 0, 1) ∧ 68 + 1 = 69 := ⟨dcAll_e (i := 39) da_X1_shiftDown_0 rfl, rfl⟩
theorem q_X1_shiftDown_69 : decode M_X1_shiftDown.2.1 69 = .ok (.getfield 34, 3) ∧ 69 + 3 = 72 := ⟨dcAll_e (i := 0) da_X1_shiftDown_1 rfl, rfl⟩
theorem q_X1_shiftDown_72 : decode M_X1_shiftDown.2.1 72 = .ok (.invokevirtual 52, 3) ∧ 72 + 3 = 75 := ⟨dcAll_e (i := 1) da_X1_shiftDown_1 rfl, rfl⟩
theorem g_X1_shiftDown_72 : en_C M_X1_shiftDown M_X1_trim 52 1 := ⟨⟨inT2 122 rfl rfl, in_X1, cd_X1_trim⟩, ⟨by decide, by decide, by decide +kernel⟩, by decide, by decide⟩
theorem q_X1_shiftDown_75 : decode M_X1_shiftDown.2.1 75 = .ok (.iload_n 3, 1) ∧ 75 + 1 = 76 := ⟨dcAll_e (i := 2) da_X1_shiftDown_1 rfl, rfl⟩
theorem q_X1_shiftDown_76 : decode M_X1_shiftDown.2.1 76 = .ok (.ireturn, 1) ∧ 76 + 1 = 77 := ⟨dcAll_e (i := 3) da_X1_shiftDown_1 rfl, rfl⟩
