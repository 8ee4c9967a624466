/-! instructions, fields, calls -/
def dl_J7_rangeCheck_23922_0 : List (Nat × Instr × Nat) := [(0, .iload_n 1, 1), (1, .iload_n 2, 1), (2, .if_icmp .le 44, 3), (5, .new 43, 3), (8, .dup, 1), (9, .new 45, 3), (12, .dup, 1), (13, .invokespecial 47, 3), (16, .ldc 48, 2), (18, .invokevirtual 50, 3), (21, .iload_n 1, 1), (22, .invokevirtual 54, 3), (25, .ldc 57, 2), (27, .invokevirtual 50, 3), (30, .iload_n 2, 1), (31, .invokevirtual 54, 3), (34, .ldc 59, 2), (36, .invokevirtual 50, 3), (39, .invokevirtual 61, 3), (42, .invokespecial 65, 3), (45, .athrow, 1), (46, .iload_n 1, 1), (47, .ifCond .ge 12, 3), (50, .new 68, 3), (53, .dup, 1), (54, .iload_n 1, 1), (55, .invokespecial 70, 3), (58, .athrow, 1), (59, .iload_n 2, 1), (60, .iload_n 0, 1), (61, .if_icmp .le 12, 3), (64, .new 68, 3), (67, .dup, 1), (68, .iload_n 2, 1), (69, .invokespecial 70, 3), (72, .athrow, 1), (73, .return_, 1)]
theorem da_J7_rangeCheck_23922_0 : dcAll M_J7_rangeCheck_23922.2.1 dl_J7_rangeCheck_23922_0 = true := by decide +kernel
theorem q_J7_rangeCheck_23922_0 : decode M_J7_rangeCheck_23922.2.1 0 = .ok (.iload_n 1, 1) ∧ 0 + 1 = 1 := ⟨dcAll_e (i := 0) da_J7_rangeCheck_23922_0 rfl, rfl⟩
theorem q_J7_rangeCheck_23922_1 : decode M_J7_rangeCheck_23922.2.1 1 = .ok (.iload_n 2, 1) ∧ 1 + 1 = 2 := ⟨dcAll_e (i := 1) da_J7_rangeCheck_23922_0 rfl, rfl⟩
theorem q_J7_rangeCheck_23922_2 : decode M_J7_rangeCheck_23922.2.1 2 = .ok (.if_icmp .le 44, 3) ∧ 2 + 3 = 5 ∧ ((2 : Nat) : Int) + 44 = ((46 : Nat) : Int) := ⟨dcAll_e (i := 2) da_J7_rangeCheck_23922_0 rfl, rfl, rfl⟩
theorem q_J7_rangeCheck_23922_5 : decode M_J7_rangeCheck_23922.2.1 5 = .ok (.new 43, 3) ∧ 5 + 3 = 8 := ⟨dcAll_e (i := 3) da_J7_rangeCheck_23922_0 rfl, rfl⟩
theorem q_J7_rangeCheck_23922_8 : decode M_J7_rangeCheck_23922.2.1 8 = .ok (.dup, 1) ∧ 8 + 1 = 9 := ⟨dcAll_e (i := 4) da_J7_rangeCheck_23922_0 rfl, rfl⟩
theorem q_J7_rangeCheck_23922_9 : decode M_J7_rangeCheck_23922.2.1 9 = .ok (.new 45, 3) ∧ 9 + 3 = 12 := ⟨dcAll_e (i := 5) da_J7_rangeCheck_23922_0 rfl, rfl⟩
theorem q_J7_rangeCheck_23922_12 : decode M_J7_rangeCheck_23922.2.1 12 = .ok (.dup, 1) ∧ 12 + 1 = 13 := ⟨dcAll_e (i := 6) da_J7_rangeCheck_23922_0 rfl, rfl⟩
theorem q_J7_rangeCheck_23922_13 : decode M_J7_rangeCheck_23922.2.1 13 = .ok (.invokespecial 47, 3) ∧ 13 + 3 = 16 := ⟨dcAll_e (i := 7) da_J7_rangeCheck_23922_0 rfl, rfl⟩
theorem q_J7_rangeCheck_23922_16 : decode M_J7_rangeCheck_23922.2.1 16 = .ok (.ldc 48, 2) ∧ 16 + 2 = 18 := ⟨dcAll_e (i := 8) da_J7_rangeCheck_23922_0 rfl, rfl⟩
theorem q_J7_rangeCheck_23922_18 : decode M_J7_rangeCheck_23922.2.1 18 = .ok (.invokevirtual 50, 3) ∧ 18 + 3 = 21 := ⟨dcAll_e (i := 9) da_J7_rangeCheck_23922_0 rfl, rfl⟩
theorem q_J7_rangeCheck_23922_21 : decode M_J7_rangeCheck_23922.2.1 21 = .ok (.iload_n 1, 1) ∧ 21 + 1 = 22 := ⟨dcAll_e (i := 10) da_J7_rangeCheck_23922_0 rfl, rfl⟩
theorem q_J7_rangeCheck_23922_22 : decode M_J7_rangeCheck_23922.2.1 22 = .ok (.invokevirtual 54, 3) ∧ 22 + 3 = 25 := ⟨dcAll_e (i := 11) da_J7_rangeCheck_23922_0 rfl, rfl⟩
theorem q_J7_rangeCheck_23922_25 : decode M_J7_rangeCheck_23922.2.1 25 = .ok (.ldc 57, 2) ∧ 25 + 2 = 27 := ⟨dcAll_e (i := 12) da_J7_rangeCheck_23922_0 rfl, rfl⟩
theorem q_J7_rangeCheck_23922_27 : decode M_J7_rangeCheck_23922.2.1 27 = .ok (.invokevirtual 50, 3) ∧ 27 + 3 = 30 := ⟨dcAll_e (i := 13) da_J7_rangeCheck_23922_0 rfl, rfl⟩
theorem q_J7_rangeCheck_23922_30 : decode M_J7_rangeCheck_23922.2.1 30 = .ok (.iload_n 2, 1) ∧ 30 + 1 = 31 := ⟨dcAll_e (i := 14) da_J7_rangeCheck_23922_0 rfl, rfl⟩
theorem q_J7_rangeCheck_23922_31 : decode M_J7_rangeCheck_23922.2.1 31 = .ok (.invokevirtual 54, 3) ∧ 31 + 3 = 34 := ⟨dcAll_e (i := 15) da_J7_rangeCheck_23922_0 rfl, rfl⟩
theorem q_J7_rangeCheck_23922_34 : decode M_J7_rangeCheck_23922.2.1 34 = .ok (.ldc 59, 2) ∧ 34 + 2 = 36 := ⟨dcAll_e (i := 16) da_J7_rangeCheck_23922_0 rfl, rfl⟩
theorem q_J7_rangeCheck_23922_36 : decode M_J7_rangeCheck_23922.2.1 36 = .ok (.invokevirtual 50, 3) ∧ 36 + 3 = 39 := ⟨dcAll_e (i := 17) da_J7_rangeCheck_23922_0 rfl, rfl⟩
theorem q_J7_rangeCheck_23922_39 : decode M_J7_rangeCheck_23922.2.1 39 = .ok (.invokevirtual 61, 3) ∧ 39 + 3 = 42 := ⟨dcAll_e (i := 18) da_J7_rangeCheck_23922_0 rfl, rfl⟩
theorem q_J7_rangeCheck_23922_42 : decode M_J7_rangeCheck_23922.2.1 42 = .ok (.invokespecial 65, 3) ∧ 42 + 3 = 45 := ⟨dcAll_e (i := 19) da_J7_rangeCheck_23922_0 rfl, rfl⟩
theorem q_J7_rangeCheck_23922_45 : decode M_J7_rangeCheck_23922.2.1 45 = .ok (.athrow, 1) ∧ 45 + 1 = 46 := ⟨dcAll_e (i := 20) da_J7_rangeCheck_23922_0 rfl, rfl⟩
theorem q_J7_rangeCheck_23922_46 : decode M_J7_rangeCheck_23922.2.1 46 = .ok (.iload_n 1, 1) ∧ 46 + 1 = 47 := ⟨dcAll_e (i := 21) da_J7_rangeCheck_23922_0 rfl, rfl⟩
theorem q_J7_rangeCheck_23922_47 : decode M_J7_rangeCheck_23922.2.1 47 = .ok (.ifCond .ge 12, 3) ∧ 47 + 3 = 50 ∧ ((47 : Nat) : Int) + 12 = ((59 : Nat) : Int) := ⟨dcAll_e (i := 22) da_J7_rangeCheck_23922_0 rfl, rfl, rfl⟩
theorem q_J7_rangeCheck_23922_50 : decode M_J7_rangeCheck_23922.2.1 50 = .ok (.new 68, 3) ∧ 50 + 3 = 53 := ⟨dcAll_e (i := 23) da_J7_rangeCheck_23922_0 rfl, rfl⟩
theorem q_J7_rangeCheck_23922_53 : decode M_J7_rangeCheck_23922.2.1 53 = .ok (.dup, 1) ∧ 53 + 1 = 54 := ⟨dcAll_e (i := 24) da_J7_rangeCheck_23922_0 rfl, rfl⟩
theorem q_J7_rangeCheck_23922_54 : decode M_J7_rangeCheck_23922.2.1 54 = .ok (.iload_n 1, 1) ∧ 54 + 1 = 55 := ⟨dcAll_e (i := 25) da_J7_rangeCheck_23922_0 rfl, rfl⟩
theorem q_J7_rangeCheck_23922_55 : decode M_J7_rangeCheck_23922.2.1 55 = .ok (.invokespecial 70, 3) ∧ 55 + 3 = 58 := ⟨dcAll_e (i := 26) da_J7_rangeCheck_23922_0 rfl, rfl⟩
theorem q_J7_rangeCheck_23922_58 : decode M_J7_rangeCheck_23922.2.1 58 = .ok (.athrow, 1) ∧ 58 + 1 = 59 := ⟨dcAll_e (i := 27) da_J7_rangeCheck_23922_0 rfl, rfl⟩
theorem q_J7_rangeCheck_23922_59 : decode M_J7_rangeCheck_23922.2.1 59 = .ok (.iload_n 2, 1) ∧ 59 + 1 = 60 := ⟨dcAll_e (i := 28) da_J7_rangeCheck_23922_0 rfl, rfl⟩
theorem q_J7_rangeCheck_23922_60 : decode M_J7_rangeCheck_23922.2.1 60 = .ok (.iload_n 0, 1) ∧ 60 + 1 = 61 := ⟨dcAll_e (i := 29) da_J7_rangeCheck_23922_0 rfl, rfl⟩
theorem q_J7_rangeCheck_23922_61 : decode M_J7_rangeCheck_23922.2.1 61 = .ok (.if_icmp .le 12, 3) ∧ 61 + 3 = 64 ∧ ((61 : Nat) : Int) + 12 = ((73 : Nat) : Int) := ⟨dcAll_e (i := 30) da_J7_rangeCheck_23922_0 rfl, rfl, rfl⟩
theorem q_J7_rangeCheck_23922_64 : decode M_J7_rangeCheck_23922.2.1 64 = .ok (.new 68, 3) ∧ 64 + 3 = 67 := ⟨dcAll_e (i := 31) da_J7_rangeCheck_23922_0 rfl, rfl⟩
theorem q_J7_rangeCheck_23922_67 : decode M_J7_rangeCheck_23922.2.1 67 = .ok (.dup, 1) ∧ 67 + 1 = 68 := ⟨dcAll_e (i := 32) da_J7_rangeCheck_23922_0 rfl, rfl⟩
theorem q_J7_rangeCheck_23922_68 : decode M_J7_rangeCheck_23922.2.1 68 = .ok (.iload_n 2, 1) ∧ 68 + 1 = 69 := ⟨dcAll_e (i := 33) da_J7_rangeCheck_23922_0 rfl, rfl⟩
theorem q_J7_rangeCheck_23922_69 : decode M_J7_rangeCheck_23922.2.1 69 = .ok (.invokespecial 70, 3) ∧ 69 + 3 = 72 := ⟨dcAll_e (i := 34) da_J7_rangeCheck_23922_0 rfl, rfl⟩
theorem q_J7_rangeCheck_23922_72 : decode M_J7_rangeCheck_23922.2.1 72 = .ok (.athrow, 1) ∧ 72 + 1 = 73 := ⟨dcAll_e (i := 35) da_J7_rangeCheck_23922_0 rfl, rfl⟩
theorem q_J7_rangeCheck_23922_73 : decode M_J7_rangeCheck_23922.2.1 73 = .ok (.return_, 1) ∧ 73 + 1 = 74 := ⟨dcAll_e (i := 36) da_J7_rangeCheck_23922_0 rfl, rfl⟩
def dl_J7_fill_fda19_0 : List (Nat × Instr × Nat) := [(0, .aload_n 0, 1), (1, .arraylength, 1), (2, .iload_n 1, 1), (3, .iload_n 2, 1), (4, .invokestatic 13, 3), (7, .iload_n 1, 1), (8, .istore 4, 2), (10, .iload 4, 2), (12, .iload_n 2, 1), (13, .if_icmp .ge 14, 3), (16, .aload_n 0, 1), (17, .iload 4, 2), (19, .iload_n 3, 1), (20, .iastore, 1), (21, .iinc 4 1, 3), (24, .goto (-14), 3), (27, .return_, 1)]
theorem da_J7_fill_fda19_0 : dcAll M_J7_fill_fda19.2.1 dl_J7_fill_fda19_0 = true := by decide +kernel
theorem q_J7_fill_fda19_0 : decode M_J7_fill_fda19.2.1 0 = .ok (.aload_n 0, 1) ∧ 0 + 1 = 1 := ⟨dcAll_e (i := 0) da_J7_fill_fda19_0 rfl, rfl⟩
theorem q_J7_fill_fda19_1 : decode M_J7_fill_fda19.2.1 1 = .ok (.arraylength, 1) ∧ 1 + 1 = 2 := ⟨dcAll_e (i := 1) da_J7_fill_fda19_0 rfl, rfl⟩
theorem q_J7_fill_fda19_2 : decode M_J7_fill_fda19.2.1 2 = .ok (.iload_n 1, 1) ∧ 2 + 1 = 3 := ⟨dcAll_e (i := 2) da_J7_fill_fda19_0 rfl, rfl⟩
theorem q_J7_fill_fda19_3 : decode M_J7_fill_fda19.2.1 3 = .ok (.iload_n 2, 1) ∧ 3 + 1 = 4 := ⟨dcAll_e (i := 3) da_J7_fill_fda19_0 rfl, rfl⟩
theorem q_J7_fill_fda19_4 : decode M_J7_fill_fda19.2.1 4 = .ok (.invokestatic 13, 3) ∧ 4 + 3 = 7 := ⟨dcAll_e (i := 4) da_J7_fill_fda19_0 rfl, rfl⟩
theorem cd_J7_rangeCheck_23922 : Cond.code M_J7_rangeCheck_23922.1 M_J7_rangeCheck_23922.2.1 M_J7_rangeCheck_23922.2.2.1 M_J7_rangeCheck_23922.2.2.2.1 ∈ en_tbl := inT2 137 rfl rfl
theorem g_J7_fill_fda19_4 : en_C M_J7_fill_fda19 M_J7_rangeCheck_23922 13 3 := ⟨⟨inT2 135 rfl rfl, by decide +kernel, cd_J7_rangeCheck_23922⟩, ⟨by decide, by decide, by decide +kernel⟩, by decide, by decide⟩
theorem w_J7_rangeCheck_23922 : Cond.static M_J7_rangeCheck_23922.1 ∈ en_tbl := inT2 136 rfl rfl
theorem q_J7_fill_fda19_7 : decode M_J7_fill_fda19.2.1 7 = .ok (.iload_n 1, 1) ∧ 7 + 1 = 8 := ⟨dcAll_e (i := 5) da_J7_fill_fda19_0 rfl, rfl⟩
theorem q_J7_fill_fda19_8 : decode M_J7_fill_fda19.2.1 8 = .ok (.istore 4, 2) ∧ 8 + 2 = 10 := ⟨dcAll_e (i := 6) da_J7_fill_fda19_0 rfl, rfl⟩
theorem q_J7_fill_fda19_10 : decode M_J7_fill_fda19.2.1 10 = .ok (.iload 4, 2) ∧ 10 + 2 = 12 := ⟨dcAll_e (i := 7) da_J7_fill_fda19_0 rfl, rfl⟩
theorem q_J7_fill_fda19_12 : decode M_J7_fill_fda19.2.1 12 = .ok (.iload_n 2, 1) ∧ 12 + 1 = 13 := ⟨dcAll_e (i := 8) da_J7_fill_fda19_0 rfl, rfl⟩
theorem q_J7_fill_fda19_13 : decode M_J7_fill_fda19.2.1 13 = .ok (.if_icmp .ge 14, 3) ∧ 13 + 3 = 16 ∧ ((13 : Nat) : Int) + 14 = ((27 : Nat) : Int) := ⟨dcAll_e (i := 9) da_J7_fill_fda19_0 rfl, rfl, rfl⟩
theorem q_J7_fill_fda19_16 : decode M_J7_fill_fda19.2.1 16 = .ok (.aload_n 0, 1) ∧ 16 + 1 = 17 := ⟨dcAll_e (i := 10) da_J7_fill_fda19_0 rfl, rfl⟩
theorem q_J7_fill_fda19_17 : decode M_J7_fill_fda19.2.1 17 = .ok (.iload 4, 2) ∧ 17 + 2 = 19 := ⟨dcAll_e (i := 11) da_J7_fill_fda19_0 rfl, rfl⟩
theorem q_J7_fill_fda19_19 : decode M_J7_fill_fda19.2.1 19 = .ok (.iload_n 3, 1) ∧ 19 + 1 = 20 := ⟨dcAll_e (i := 12) da_J7_fill_fda19_0 rfl, rfl⟩
theorem q_J7_fill_fda19_20 : decode M_J7_fill_fda19.2.1 20 = .ok (.iastore, 1) ∧ 20 + 1 = 21 := ⟨dcAll_e (i := 13) da_J7_fill_fda19_0 rfl, rfl⟩
theorem q_J7_fill_fda19_21 : decode M_J7_fill_fda19.2.1 21 = .ok (.iinc 4 1, 3) ∧ 21 + 3 = 24 := ⟨dcAll_e (i := 14) da_J7_fill_fda19_0 rfl, rfl⟩
theorem q_J7_fill_fda19_24 : decode M_J7_fill_fda19.2.1 24 = .ok (.goto (-14), 3) ∧ 24 + 3 = 27 ∧ ((24 : Nat) : Int) + (-14) = ((10 : Nat) : Int) := ⟨dcAll_e (i := 15) da_J7_fill_fda19_0 rfl, rfl, rfl⟩
theorem q_J7_fill_fda19_27 : decode M_J7_fill_fda19.2.1 27 = .ok (.return_, 1) ∧ 27 + 1 = 28 := ⟨dcAll_e (i := 16) da_J7_fill_fda19_0 rfl, rfl⟩
def dl_J7_copyOf_59c91_0 : List (Nat × Instr × Nat) := [(0, .iload_n 1, 1), (1, .aload_n 0, 1), (2, .arraylength, 1), (3, .if_icmp .ne 11, 3), (6, .aload_n 0, 1), (7, .invokevirtual 316, 3), (10, .checkcast 317, 3), (13, .areturn, 1), (14, .iload_n 1, 1), (15, .newarray .int, 2), (17, .astore_n 2, 1), (18, .aload_n 0, 1), (19, .iconst 0, 1), (20, .aload_n 2, 1), (21, .iconst 0, 1), (22, .aload_n 0, 1), (23, .arraylength, 1), (24, .iload_n 1, 1), (25, .invokestatic 304, 3), (28, .invokestatic 150, 3), (31, .aload_n 2, 1), (32, .areturn, 1)]
theorem da_J7_copyOf_59c91_0 : dcAll M_J7_copyOf_59c91.2.1 dl_J7_copyOf_59c91_0 = true := by decide +kernel
theorem q_J7_copyOf_59c91_0 : decode M_J7_copyOf_59c91.2.1 0 = .ok (.iload_n 1, 1) ∧ 0 + 1 = 1 := ⟨dcAll_e (i := 0) da_J7_copyOf_59c91_0 rfl, rfl⟩
theorem q_J7_copyOf_59c91_1 : decode M_J7_copyOf_59c91.2.1 1 = .ok (.aload_n 0, 1) ∧ 1 + 1 = 2 := ⟨dcAll_e (i := 1) da_J7_copyOf_59c91_0 rfl, rfl⟩
theorem q_J7_copyOf_59c91_2 : decode M_J7_copyOf_59c91.2.1 2 = .ok (.arraylength, 1) ∧ 2 + 1 = 3 := ⟨dcAll_e (i := 2) da_J7_copyOf_59c91_0 rfl, rfl⟩
theorem q_J7_copyOf_59c91_3 : decode M_J7_copyOf_59c91.2.1 3 = .ok (.if_icmp .ne 11, 3) ∧ 3 + 3 = 6 ∧ ((3 : Nat) : Int) + 11 = ((14 : Nat) : Int) := ⟨dcAll_e (i := 3) da_J7_copyOf_59c91_0 rfl, rfl, rfl⟩
theorem q_J7_copyOf_59c91_6 : decode M_J7_copyOf_59c91.2.1 6 = .ok (.aload_n 0, 1) ∧ 6 + 1 = 7 := ⟨dcAll_e (i := 4) da_J7_copyOf_59c91_0 rfl, rfl⟩
theorem q_J7_copyOf_59c91_7 : decode M_J7_copyOf_59c91.2.1 7 = .ok (.invokevirtual 316, 3) ∧ 7 + 3 = 10 := ⟨dcAll_e (i := 5) da_J7_copyOf_59c91_0 rfl, rfl⟩
theorem q_J7_copyOf_59c91_10 : decode M_J7_copyOf_59c91.2.1 10 = .ok (.checkcast 317, 3) ∧ 10 + 3 = 13 := ⟨dcAll_e (i := 6) da_J7_copyOf_59c91_0 rfl, rfl⟩
theorem q_J7_copyOf_59c91_13 : decode M_J7_copyOf_59c91.2.1 13 = .ok (.areturn, 1) ∧ 13 + 1 = 14 := ⟨dcAll_e (i := 7) da_J7_copyOf_59c91_0 rfl, rfl⟩
theorem q_J7_copyOf_59c91_14 : decode M_J7_copyOf_59c91.2.1 14 = .ok (.iload_n 1, 1) ∧ 14 + 1 = 15 := ⟨dcAll_e (i := 8) da_J7_copyOf_59c91_0 rfl, rfl⟩
theorem q_J7_copyOf_59c91_15 : decode M_J7_copyOf_59c91.2.1 15 = .ok (.newarray .int, 2) ∧ 15 + 2 = 17 := ⟨dcAll_e (i := 9) da_J7_copyOf_59c91_0 rfl, rfl⟩
theorem q_J7_copyOf_59c91_17 : decode M_J7_copyOf_59c91.2.1 17 = .ok (.astore_n 2, 1) ∧ 17 + 1 = 18 := ⟨dcAll_e (i := 10) da_J7_copyOf_59c91_0 rfl, rfl⟩
theorem q_J7_copyOf_59c91_18 : decode M_J7_copyOf_59c91.2.1 18 = .ok (.aload_n 0, 1) ∧ 18 + 1 = 19 := ⟨dcAll_e (i := 11) da_J7_copyOf_59c91_0 rfl, rfl⟩
theorem q_J7_copyOf_59c91_19 : decode M_J7_copyOf_59c91.2.1 19 = .ok (.iconst 0, 1) ∧ 19 + 1 = 20 := ⟨dcAll_e (i := 12) da_J7_copyOf_59c91_0 rfl, rfl⟩
theorem q_J7_copyOf_59c91_20 : decode M_J7_copyOf_59c91.2.1 20 = .ok (.aload_n 2, 1) ∧ 20 + 1 = 21 := ⟨dcAll_e (i := 13) da_J7_copyOf_59c91_0 rfl, rfl⟩
theorem q_J7_copyOf_59c91_21 : decode M_J7_copyOf_59c91.2.1 21 = .ok (.iconst 0, 1) ∧ 21 + 1 = 22 := ⟨dcAll_e (i := 14) da_J7_copyOf_59c91_0 rfl, rfl⟩
theorem q_J7_copyOf_59c91_22 : decode M_J7_copyOf_59c91.2.1 22 = .ok (.aload_n 0, 1) ∧ 22 + 1 = 23 := ⟨dcAll_e (i := 15) da_J7_copyOf_59c91_0 rfl, rfl⟩
theorem q_J7_copyOf_59c91_23 : decode M_J7_copyOf_59c91.2.1 23 = .ok (.arraylength, 1) ∧ 23 + 1 = 24 := ⟨dcAll_e (i := 16) da_J7_copyOf_59c91_0 rfl, rfl⟩
theorem q_J7_copyOf_59c91_24 : decode M_J7_copyOf_59c91.2.1 24 = .ok (.iload_n 1, 1) ∧ 24 + 1 = 25 := ⟨dcAll_e (i := 17) da_J7_copyOf_59c91_0 rfl, rfl⟩
theorem q_J7_copyOf_59c91_25 : decode M_J7_copyOf_59c91.2.1 25 = .ok (.invokestatic 304, 3) ∧ 25 + 3 = 28 := ⟨dcAll_e (i := 18) da_J7_copyOf_59c91_0 rfl, rfl⟩
theorem a_RJ7_304 : Cond.methodLink RJ7 304 Lib.Math.min.name ∈ en_tbl := by decide +kernel
theorem q_J7_copyOf_59c91_28 : decode M_J7_copyOf_59c91.2.1 28 = .ok (.invokestatic 150, 3) ∧ 28 + 3 = 31 := ⟨dcAll_e (i := 19) da_J7_copyOf_59c91_0 rfl, rfl⟩
theorem a_RJ7_150 : Cond.methodLink RJ7 150 arraycopyName ∈ en_tbl := by decide +kernel
theorem q_J7_copyOf_59c91_31 : decode M_J7_copyOf_59c91.2.1 31 = .ok (.aload_n 2, 1) ∧ 31 + 1 = 32 := ⟨dcAll_e (i := 20) da_J7_copyOf_59c91_0 rfl, rfl⟩
theorem q_J7_copyOf_59c91_32 : decode M_J7_copyOf_59c91.2.1 32 = .ok (.areturn, 1) ∧ 32 + 1 = 33 := ⟨dcAll_e (i := 21) da_J7_copyOf_59c91_0 rfl, rfl⟩
