/-! instructions, fields, calls -/
def dl_X3_init_0 : List (Nat × Instr × Nat) := [(0, .aload_n 0, 1), (1, .invokespecial 1, 3), (4, .aload_n 0, 1), (5, .new 7, 3), (8, .dup, 1), (9, .invokespecial 9, 3), (12, .putfield 10, 3), (15, .aload_n 0, 1), (16, .new 7, 3), (19, .dup, 1), (20, .invokespecial 9, 3), (23, .putfield 16, 3), (26, .aload_n 0, 1), (27, .new 7, 3), (30, .dup, 1), (31, .invokespecial 9, 3), (34, .putfield 19, 3), (37, .aload_n 0, 1), (38, .new 7, 3), (41, .dup, 1), (42, .invokespecial 9, 3), (45, .putfield 22, 3), (48, .return_, 1)]
theorem da_X3_init_0 : dcAll M_X3_init.2.1 dl_X3_init_0 = true := by decide +kernel
theorem q_X3_init_0 : decode M_X3_init.2.1 0 = .ok (.aload_n 0, 1) ∧ 0 + 1 = 1 := ⟨dcAll_e (i := 0) da_X3_init_0 rfl, rfl⟩
theorem q_X3_init_1 : decode M_X3_init.2.1 1 = .ok (.invokespecial 1, 3) ∧ 1 + 3 = 4 := ⟨dcAll_e (i := 1) da_X3_init_0 rfl, rfl⟩
theorem o_RX3_1 : Cond.methodLink RX3 1 Lib.objectInit ∈ en_tbl := by decide +kernel
theorem q_X3_init_4 : decode M_X3_init.2.1 4 = .ok (.aload_n 0, 1) ∧ 4 + 1 = 5 := ⟨dcAll_e (i := 2) da_X3_init_0 rfl, rfl⟩
theorem q_X3_init_5 : decode M_X3_init.2.1 5 = .ok (.new 7, 3) ∧ 5 + 3 = 8 := ⟨dcAll_e (i := 3) da_X3_init_0 rfl, rfl⟩
theorem n_RX3_7 : en_N RX3 7 1 3 [.int 0, .int 0, .null] := ⟨RX1, TX1, tyX1, rfl, by decide +kernel, by decide +kernel, in_X1, uw_X1, tyX1_ok, fun j hj => by match j, hj with | 0, _ => rfl | 1, _ => rfl | 2, _ => rfl | j + 3, h => omega⟩
theorem q_X3_init_8 : decode M_X3_init.2.1 8 = .ok (.dup, 1) ∧ 8 + 1 = 9 := ⟨dcAll_e (i := 4) da_X3_init_0 rfl, rfl⟩
theorem q_X3_init_9 : decode M_X3_init.2.1 9 = .ok (.invokespecial 9, 3) ∧ 9 + 3 = 12 := ⟨dcAll_e (i := 5) da_X3_init_0 rfl, rfl⟩
theorem g_X3_init_9 : en_CN M_X3_init M_X1_init 9 0 "EnclosedDigits" := ⟨⟨by decide +kernel, in_X1, cd_X1_init⟩, ⟨by decide, by decide, by decide +kernel⟩, by decide, by decide⟩
theorem q_X3_init_12 : decode M_X3_init.2.1 12 = .ok (.putfield 10, 3) ∧ 12 + 3 = 15 := ⟨dcAll_e (i := 6) da_X3_init_0 rfl, rfl⟩
theorem p_RX3_10 : en_Fp RX3 10 3 0 false (.object "EnclosedDigits$Big") := ⟨RX3, TX3, 4, tyX3, rfl, by decide, rfl, inT1 133 rfl rfl, uw_X3, tyX3_ok, nmX3, rfl, by decide +kernel⟩
theorem q_X3_init_15 : decode M_X3_init.2.1 15 = .ok (.aload_n 0, 1) ∧ 15 + 1 = 16 := ⟨dcAll_e (i := 7) da_X3_init_0 rfl, rfl⟩
theorem q_X3_init_16 : decode M_X3_init.2.1 16 = .ok (.new 7, 3) ∧ 16 + 3 = 19 := ⟨dcAll_e (i := 8) da_X3_init_0 rfl, rfl⟩
theorem q_X3_init_19 : decode M_X3_init.2.1 19 = .ok (.dup, 1) ∧ 19 + 1 = 20 := ⟨dcAll_e (i := 9) da_X3_init_0 rfl, rfl⟩
theorem q_X3_init_20 : decode M_X3_init.2.1 20 = .ok (.invokespecial 9, 3) ∧ 20 + 3 = 23 := ⟨dcAll_e (i := 10) da_X3_init_0 rfl, rfl⟩
theorem g_X3_init_20 : en_CN M_X3_init M_X1_init 9 0 "EnclosedDigits" := ⟨⟨by decide +kernel, in_X1, cd_X1_init⟩, ⟨by decide, by decide, by decide +kernel⟩, by decide, by decide⟩
theorem q_X3_init_23 : decode M_X3_init.2.1 23 = .ok (.putfield 16, 3) ∧ 23 + 3 = 26 := ⟨dcAll_e (i := 11) da_X3_init_0 rfl, rfl⟩
theorem p_RX3_16 : en_Fp RX3 16 3 1 false (.object "EnclosedDigits$Big") := ⟨RX3, TX3, 4, tyX3, rfl, by decide, rfl, inT1 134 rfl rfl, uw_X3, tyX3_ok, nmX3, rfl, by decide +kernel⟩
theorem q_X3_init_26 : decode M_X3_init.2.1 26 = .ok (.aload_n 0, 1) ∧ 26 + 1 = 27 := ⟨dcAll_e (i := 12) da_X3_init_0 rfl, rfl⟩
theorem q_X3_init_27 : decode M_X3_init.2.1 27 = .ok (.new 7, 3) ∧ 27 + 3 = 30 := ⟨dcAll_e (i := 13) da_X3_init_0 rfl, rfl⟩
theorem q_X3_init_30 : decode M_X3_init.2.1 30 = .ok (.dup, 1) ∧ 30 + 1 = 31 := ⟨dcAll_e (i := 14) da_X3_init_0 rfl, rfl⟩
theorem q_X3_init_31 : decode M_X3_init.2.1 31 = .ok (.invokespecial 9, 3) ∧ 31 + 3 = 34 := ⟨dcAll_e (i := 15) da_X3_init_0 rfl, rfl⟩
theorem g_X3_init_31 : en_CN M_X3_init M_X1_init 9 0 "EnclosedDigits" := ⟨⟨by decide +kernel, in_X1, cd_X1_init⟩, ⟨by decide, by decide, by decide +kernel⟩, by decide, by decide⟩
theorem q_X3_init_34 : decode M_X3_init.2.1 34 = .ok (.putfield 19, 3) ∧ 34 + 3 = 37 := ⟨dcAll_e (i := 16) da_X3_init_0 rfl, rfl⟩
theorem p_RX3_19 : en_Fp RX3 19 3 2 false (.object "EnclosedDigits$Big") := ⟨RX3, TX3, 4, tyX3, rfl, by decide, rfl, inT1 135 rfl rfl, uw_X3, tyX3_ok, nmX3, rfl, by decide +kernel⟩
theorem q_X3_init_37 : decode M_X3_init.2.1 37 = .ok (.aload_n 0, 1) ∧ 37 + 1 = 38 := ⟨dcAll_e (i := 17) da_X3_init_0 rfl, rfl⟩
theorem q_X3_init_38 : decode M_X3_init.2.1 38 = .ok (.new 7, 3) ∧ 38 + 3 = 41 := ⟨dcAll_e (i := 18) da_X3_init_0 rfl, rfl⟩
theorem q_X3_init_41 : decode M_X3_init.2.1 41 = .ok (.dup, 1) ∧ 41 + 1 = 42 := ⟨dcAll_e (i := 19) da_X3_init_0 rfl, rfl⟩
theorem q_X3_init_42 : decode M_X3_init.2.1 42 = .ok (.invokespecial 9, 3) ∧ 42 + 3 = 45 := ⟨dcAll_e (i := 20) da_X3_init_0 rfl, rfl⟩
theorem g_X3_init_42 : en_CN M_X3_init M_X1_init 9 0 "EnclosedDigits" := ⟨⟨by decide +kernel, in_X1, cd_X1_init⟩, ⟨by decide, by decide, by decide +kernel⟩, by decide, by decide⟩
theorem q_X3_init_45 : decode M_X3_init.2.1 45 = .ok (.putfield 22, 3) ∧ 45 + 3 = 48 := ⟨dcAll_e (i := 21) da_X3_init_0 rfl, rfl⟩
theorem p_RX3_22 : en_Fp RX3 22 3 3 true (.object "EnclosedDigits$Big") := ⟨RX3, TX3, 4, tyX3, rfl, by decide, rfl, inT1 136 rfl rfl, uw_X3, tyX3_ok, nmX3, rfl, by decide +kernel⟩
theorem q_X3_init_48 : decode M_X3_init.2.1 48 = .ok (.return_, 1) ∧ 48 + 1 = 49 := ⟨dcAll_e (i := 22) da_X3_init_0 rfl, rfl⟩
def dl_X3_start_0 : List (Nat × Instr × Nat) := [(0, .aload_n 0, 1), (1, .getfield 10, 3), (4, .aload_n 1, 1), (5, .invokevirtual 25, 3), (8, .aload_n 0, 1), (9, .getfield 16, 3), (12, .lconst 1, 1), (13, .invokevirtual 29, 3), (16, .aload_n 0, 1), (17, .getfield 16, 3), (20, .iload_n 2, 1), (21, .invokevirtual 33, 3), (24, .return_, 1)]
theorem da_X3_start_0 : dcAll M_X3_start.2.1 dl_X3_start_0 = true := by decide +kernel
theorem q_X3_start_0 : decode M_X3_start.2.1 0 = .ok (.aload_n 0, 1) ∧ 0 + 1 = 1 := ⟨dcAll_e (i := 0) da_X3_start_0 rfl, rfl⟩
theorem q_X3_start_1 : decode M_X3_start.2.1 1 = .ok (.getfield 10, 3) ∧ 1 + 3 = 4 := ⟨dcAll_e (i := 1) da_X3_start_0 rfl, rfl⟩
theorem f_RX3_10 : en_F RX3 10 3 0 := ⟨RX3, TX3, 4, rfl, by decide, rfl, inT1 133 rfl rfl, uw_X3⟩
theorem q_X3_start_4 : decode M_X3_start.2.1 4 = .ok (.aload_n 1, 1) ∧ 4 + 1 = 5 := ⟨dcAll_e (i := 2) da_X3_start_0 rfl, rfl⟩
theorem q_X3_start_5 : decode M_X3_start.2.1 5 = .ok (.invokevirtual 25, 3) ∧ 5 + 3 = 8 := ⟨dcAll_e (i := 3) da_X3_start_0 rfl, rfl⟩
theorem g_X3_start_5 : en_C M_X3_start M_X1_copy 25 1 := ⟨⟨inT3 124 rfl rfl, in_X1, cd_X1_copy⟩, ⟨by decide, by decide, by decide +kernel⟩, by decide, by decide⟩
theorem q_X3_start_8 : decode M_X3_start.2.1 8 = .ok (.aload_n 0, 1) ∧ 8 + 1 = 9 := ⟨dcAll_e (i := 4) da_X3_start_0 rfl, rfl⟩
theorem q_X3_start_9 : decode M_X3_start.2.1 9 = .ok (.getfield 16, 3) ∧ 9 + 3 = 12 := ⟨dcAll_e (i := 5) da_X3_start_0 rfl, rfl⟩
theorem f_RX3_16 : en_F RX3 16 3 1 := ⟨RX3, TX3, 4, rfl, by decide, rfl, inT1 134 rfl rfl, uw_X3⟩
theorem q_X3_start_12 : decode M_X3_start.2.1 12 = .ok (.lconst 1, 1) ∧ 12 + 1 = 13 := ⟨dcAll_e (i := 6) da_X3_start_0 rfl, rfl⟩
theorem q_X3_start_13 : decode M_X3_start.2.1 13 = .ok (.invokevirtual 29, 3) ∧ 13 + 3 = 16 := ⟨dcAll_e (i := 7) da_X3_start_0 rfl, rfl⟩
theorem g_X3_start_13 : en_C M_X3_start M_X1_setLong 29 1 := ⟨⟨inT3 125 rfl rfl, in_X1, cd_X1_setLong⟩, ⟨by decide, by decide, by decide +kernel⟩, by decide, by decide⟩
theorem q_X3_start_16 : decode M_X3_start.2.1 16 = .ok (.aload_n 0, 1) ∧ 16 + 1 = 17 := ⟨dcAll_e (i := 8) da_X3_start_0 rfl, rfl⟩
theorem q_X3_start_17 : decode M_X3_start.2.1 17 = .ok (.getfield 16, 3) ∧ 17 + 3 = 20 := ⟨dcAll_e (i := 9) da_X3_start_0 rfl, rfl⟩
theorem q_X3_start_20 : decode M_X3_start.2.1 20 = .ok (.iload_n 2, 1) ∧ 20 + 1 = 21 := ⟨dcAll_e (i := 10) da_X3_start_0 rfl, rfl⟩
theorem q_X3_start_21 : decode M_X3_start.2.1 21 = .ok (.invokevirtual 33, 3) ∧ 21 + 3 = 24 := ⟨dcAll_e (i := 11) da_X3_start_0 rfl, rfl⟩
theorem g_X3_start_21 : en_C M_X3_start M_X1_shiftUp 33 1 := ⟨⟨inT3 126 rfl rfl, in_X1, cd_X1_shiftUp⟩, ⟨by decide, by decide, by decide +kernel⟩, by decide, by decide⟩
theorem q_X3_start_24 : decode M_X3_start.2.1 24 = .ok (.return_, 1) ∧ 24 + 1 = 25 := ⟨dcAll_e (i := 12) da_X3_start_0 rfl, rfl⟩
def dl_X3_step_0 : List (Nat × Instr × Nat) := [(0, .aload_n 0, 1), (1, .getfield 16, 3), (4, .getfield 37, 3), (7, .ifCond .ne 5, 3), (10, .iconst 0, 1), (11, .ireturn, 1), (12, .aload_n 1, 1), (13, .aload_n 0, 1), (14, .getfield 10, 3), (17, .aload_n 0, 1), (18, .getfield 16, 3), (21, .aload_n 0, 1), (22, .getfield 22, 3), (25, .aload_n 0, 1), (26, .getfield 19, 3), (29, .invokevirtual 41, 3), (32, .aload_n 0, 1), (33, .getfield 10, 3), (36, .getfield 37, 3), (39, .ifCond .ge 7, 3), (42, .aload_n 0, 1), (43, .invokevirtual 47, 3), (46, .aload_n 0, 1), (47, .getfield 10, 3), (50, .astore_n 2, 1), (51, .aload_n 0, 1), (52, .aload_n 0, 1), (53, .getfield 16, 3), (56, .putfield 10, 3), (59, .aload_n 0, 1), (60, .aload_n 0, 1), (61, .getfield 19, 3), (64, .putfield 16, 3), (67, .aload_n 0, 1), (68, .aload_n 2, 1), (69, .putfield 19, 3), (72, .iconst 1, 1), (73, .ireturn, 1)]
theorem da_X3_step_0 : dcAll M_X3_step.2.1 dl_X3_step_0 = true := by decide +kernel
theorem q_X3_step_0 : decode M_X3_step.2.1 0 = .ok (.aload_n 0, 1) ∧ 0 + 1 = 1 := ⟨dcAll_e (i := 0) da_X3_step_0 rfl, rfl⟩
theorem q_X3_step_1 : decode M_X3_step.2.1 1 = .ok (.getfield 16, 3) ∧ 1 + 3 = 4 := ⟨dcAll_e (i := 1) da_X3_step_0 rfl, rfl⟩
theorem q_X3_step_4 : decode M_X3_step.2.1 4 = .ok (.getfield 37, 3) ∧ 4 + 3 = 7 := ⟨dcAll_e (i := 2) da_X3_step_0 rfl, rfl⟩
theorem f_RX3_37 : en_F RX3 37 1 0 := ⟨RX1, TX1, 3, rfl, by decide, rfl, inT1 41 rfl rfl, uw_X1⟩
theorem q_X3_step_7 : decode M_X3_step.2.1 7 = .ok (.ifCond .ne 5, 3) ∧ 7 + 3 = 10 ∧ ((7 : Nat) : Int) + 5 = ((12 : Nat) : Int) := ⟨dcAll_e (i := 3) da_X3_step_0 rfl, rfl, rfl⟩
theorem q_X3_step_10 : decode M_X3_step.2.1 10 = .ok (.iconst 0, 1) ∧ 10 + 1 = 11 := ⟨dcAll_e (i := 4) da_X3_step_0 rfl, rfl⟩
theorem q_X3_step_11 : decode M_X3_step.2.1 11 = .ok (.ireturn, 1) ∧ 11 + 1 = 12 := ⟨dcAll_e (i := 5) da_X3_step_0 rfl, rfl⟩
theorem q_X3_step_12 : decode M_X3_step.2.1 12 = .ok (.aload_n 1, 1) ∧ 12 + 1 = 13 := ⟨dcAll_e (i := 6) da_X3_step_0 rfl, rfl⟩
theorem q_X3_step_13 : decode M_X3_step.2.1 13 = .ok (.aload_n 0, 1) ∧ 13 + 1 = 14 := ⟨dcAll_e (i := 7) da_X3_step_0 rfl, rfl⟩
theorem q_X3_step_14 : decode M_X3_step.2.1 14 = .ok (.getfield 10, 3) ∧ 14 + 3 = 17 := ⟨dcAll_e (i := 8) da_X3_step_0 rfl, rfl⟩
theorem q_X3_step_17 : decode M_X3_step.2.1 17 = .ok (.aload_n 0, 1) ∧ 17 + 1 = 18 := ⟨dcAll_e (i := 9) da_X3_step_0 rfl, rfl⟩
theorem q_X3_step_18 : decode M_X3_step.2.1 18 = .ok (.getfield 16, 3) ∧ 18 + 3 = 21 := ⟨dcAll_e (i := 10) da_X3_step_0 rfl, rfl⟩
theorem q_X3_step_21 : decode M_X3_step.2.1 21 = .ok (.aload_n 0, 1) ∧ 21 + 1 = 22 := ⟨dcAll_e (i := 11) da_X3_step_0 rfl, rfl⟩
theorem q_X3_step_22 : decode M_X3_step.2.1 22 = .ok (.getfield 22, 3) ∧ 22 + 3 = 25 := ⟨dcAll_e (i := 12) da_X3_step_0 rfl, rfl⟩
theorem f_RX3_22 : en_F RX3 22 3 3 := ⟨RX3, TX3, 4, rfl, by decide, rfl, inT1 136 rfl rfl, uw_X3⟩
theorem q_X3_step_25 : decode M_X3_step.2.1 25 = .ok (.aload_n 0, 1) ∧ 25 + 1 = 26 := ⟨dcAll_e (i := 13) da_X3_step_0 rfl, rfl⟩
theorem q_X3_step_26 : decode M_X3_step.2.1 26 = .ok (.getfield 19, 3) ∧ 26 + 3 = 29 := ⟨dcAll_e (i := 14) da_X3_step_0 rfl, rfl⟩
theorem f_RX3_19 : en_F RX3 19 3 2 := ⟨RX3, TX3, 4, rfl, by decide, rfl, inT1 135 rfl rfl, uw_X3⟩
theorem q_X3_step_29 : decode M_X3_step.2.1 29 = .ok (.invokevirtual 41, 3) ∧ 29 + 3 = 32 := ⟨dcAll_e (i := 15) da_X3_step_0 rfl, rfl⟩
theorem g_X3_step_29 : en_C M_X3_step M_X0_divide 41 4 := ⟨⟨inT3 131 rfl rfl, in_X0, cd_X0_divide⟩, ⟨by decide, by decide, by decide +kernel⟩, by decide, by decide⟩
theorem q_X3_step_32 : decode M_X3_step.2.1 32 = .ok (.aload_n 0, 1) ∧ 32 + 1 = 33 := ⟨dcAll_e (i := 16) da_X3_step_0 rfl, rfl⟩
theorem q_X3_step_33 : decode M_X3_step.2.1 33 = .ok (.getfield 10, 3) ∧ 33 + 3 = 36 := ⟨dcAll_e (i := 17) da_X3_step_0 rfl, rfl⟩
theorem q_X3_step_36 : decode M_X3_step.2.1 36 = .ok (.getfield 37, 3) ∧ 36 + 3 = 39 := ⟨dcAll_e (i := 18) da_X3_step_0 rfl, rfl⟩
theorem q_X3_step_39 : decode M_X3_step.2.1 39 = .ok (.ifCond .ge 7, 3) ∧ 39 + 3 = 42 ∧ ((39 : Nat) : Int) + 7 = ((46 : Nat) : Int) := ⟨dcAll_e (i := 19) da_X3_step_0 rfl, rfl, rfl⟩
theorem q_X3_step_42 : decode M_X3_step.2.1 42 = .ok (.aload_n 0, 1) ∧ 42 + 1 = 43 := ⟨dcAll_e (i := 20) da_X3_step_0 rfl, rfl⟩
theorem q_X3_step_43 : decode M_X3_step.2.1 43 = .ok (.invokevirtual 47, 3) ∧ 43 + 3 = 46 := ⟨dcAll_e (i := 21) da_X3_step_0 rfl, rfl⟩
theorem cd_X3_roundDown : Cond.code M_X3_roundDown.1 M_X3_roundDown.2.1 M_X3_roundDown.2.2.1 M_X3_roundDown.2.2.2.1 ∈ en_tbl := inT3 135 rfl rfl
theorem g_X3_step_43 : en_C M_X3_step M_X3_roundDown 47 0 := ⟨⟨inT3 132 rfl rfl, in_X3, cd_X3_roundDown⟩, ⟨by decide, by decide, by decide +kernel⟩, by decide, by decide⟩
theorem w_X3_roundDown : Cond.instanceMethod M_X3_roundDown.1 ∈ en_tbl ∧ Cond.selects M_X3_roundDown.1.cls M_X3_roundDown.1 M_X3_roundDown.1 ∈ en_tbl := ⟨inT3 134 rfl rfl, by decide +kernel⟩
theorem q_X3_step_46 : decode M_X3_step.2.1 46 = .ok (.aload_n 0, 1) ∧ 46 + 1 = 47 := ⟨dcAll_e (i := 22) da_X3_step_0 rfl, rfl⟩
theorem q_X3_step_47 : decode M_X3_step.2.1 47 = .ok (.getfield 10, 3) ∧ 47 + 3 = 50 := ⟨dcAll_e (i := 23) da_X3_step_0 rfl, rfl⟩
theorem q_X3_step_50 : decode M_X3_step.2.1 50 = .ok (.astore_n 2, 1) ∧ 50 + 1 = 51 := ⟨dcAll_e (i := 24) da_X3_step_0 rfl, rfl⟩
theorem q_X3_step_51 : decode M_X3_step.2.1 51 = .ok (.aload_n 0, 1) ∧ 51 + 1 = 52 := ⟨dcAll_e (i := 25) da_X3_step_0 rfl, rfl⟩
theorem q_X3_step_52 : decode M_X3_step.2.1 52 = .ok (.aload_n 0, 1) ∧ 52 + 1 = 53 := ⟨dcAll_e (i := 26) da_X3_step_0 rfl, rfl⟩
theorem q_X3_step_53 : decode M_X3_step.2.1 53 = .ok (.getfield 16, 3) ∧ 53 + 3 = 56 := ⟨dcAll_e (i := 27) da_X3_step_0 rfl, rfl⟩
theorem q_X3_step_56 : decode M_X3_step.2.1 56 = .ok (.putfield 10, 3) ∧ 56 + 3 = 59 := ⟨dcAll_e (i := 28) da_X3_step_0 rfl, rfl⟩
theorem q_X3_step_59 : decode M_X3_step.2.1 59 = .ok (.aload_n 0, 1) ∧ 59 + 1 = 60 := ⟨dcAll_e (i := 29) da_X3_step_0 rfl, rfl⟩
theorem q_X3_step_60 : decode M_X3_step.2.1 60 = .ok (.aload_n 0, 1) ∧ 60 + 1 = 61 := ⟨dcAll_e (i := 30) da_X3_step_0 rfl, rfl⟩
theorem q_X3_step_61 : decode M_X3_step.2.1 61 = .ok (.getfield 19, 3) ∧ 61 + 3 = 64 := ⟨dcAll_e (i := 31) da_X3_step_0 rfl, rfl⟩
theorem q_X3_step_64 : decode M_X3_step.2.1 64 = .ok (.putfield 16, 3) ∧ 64 + 3 = 67 := ⟨dcAll_e (i := 32) da_X3_step_0 rfl, rfl⟩
theorem q_X3_step_67 : decode M_X3_step.2.1 67 = .ok (.aload_n 0, 1) ∧ 67 + 1 = 68 := ⟨dcAll_e (i := 33) da_X3_step_0 rfl, rfl⟩
theorem q_X3_step_68 : decode M_X3_step.2.1 68 = .ok (.aload_n 2, 1) ∧ 68 + 1 = 69 := ⟨dcAll_e (i := 34) da_X3_step_0 rfl, rfl⟩
theorem q_X3_step_69 : decode M_X3_step.2.1 69 = .ok (.putfield 19, 3) ∧ 69 + 3 = 72 := ⟨dcAll_e (i := 35) da_X3_step_0 rfl, rfl⟩
theorem q_X3_step_72 : decode M_X3_step.2.1 72 = .ok (.iconst 1, 1) ∧ 72 + 1 = 73 := ⟨dcAll_e (i := 36) da_X3_step_0 rfl, rfl⟩
theorem q_X3_step_73 : decode M_X3_step.2.1 73 = .ok (.ireturn, 1) ∧ 73 + 1 = 74 := ⟨dcAll_e (i := 37) da_X3_step_0 rfl, rfl⟩
def dl_X3_roundDown_0 : List (Nat × Instr × Nat) := [(0, .aload_n 0, 1), (1, .getfield 22, 3), (4, .aload_n 0, 1), (5, .getfield 22, 3), (8, .getfield 37, 3), (11, .ineg, 1), (12, .putfield 37, 3), (15, .aload_n 0, 1), (16, .getfield 19, 3), (19, .getfield 37, 3), (22, .ifCond .eq 37, 3), (25, .aload_n 0, 1), (26, .getfield 22, 3), (29, .iconst (-1), 1), (30, .invokevirtual 50, 3), (33, .aload_n 0, 1), (34, .getfield 19, 3), (37, .aload_n 0, 1), (38, .getfield 19, 3), (41, .getfield 37, 3), (44, .ineg, 1), (45, .putfield 37, 3), (48, .aload_n 0, 1), (49, .getfield 19, 3), (52, .aload_n 0, 1), (53, .getfield 16, 3), (56, .invokevirtual 53, 3), (59, .return_, 1)]
theorem da_X3_roundDown_0 : dcAll M_X3_roundDown.2.1 dl_X3_roundDown_0 = true := by decide +kernel
theorem q_X3_roundDown_0 : decode M_X3_roundDown.2.1 0 = .ok (.aload_n 0, 1) ∧ 0 + 1 = 1 := ⟨dcAll_e (i := 0) da_X3_roundDown_0 rfl, rfl⟩
theorem q_X3_roundDown_1 : decode M_X3_roundDown.2.1 1 = .ok (.getfield 22, 3) ∧ 1 + 3 = 4 := ⟨dcAll_e (i := 1) da_X3_roundDown_0 rfl, rfl⟩
theorem q_X3_roundDown_4 : decode M_X3_roundDown.2.1 4 = .ok (.aload_n 0, 1) ∧ 4 + 1 = 5 := ⟨dcAll_e (i := 2) da_X3_roundDown_0 rfl, rfl⟩
theorem q_X3_roundDown_5 : decode M_X3_roundDown.2.1 5 = .ok (.getfield 22, 3) ∧ 5 + 3 = 8 := ⟨dcAll_e (i := 3) da_X3_roundDown_0 rfl, rfl⟩
theorem q_X3_roundDown_8 : decode M_X3_roundDown.2.1 8 = .ok (.getfield 37, 3) ∧ 8 + 3 = 11 := ⟨dcAll_e (i := 4) da_X3_roundDown_0 rfl, rfl⟩
theorem q_X3_roundDown_11 : decode M_X3_roundDown.2.1 11 = .ok (.ineg, 1) ∧ 11 + 1 = 12 := ⟨dcAll_e (i := 5) da_X3_roundDown_0 rfl, rfl⟩
theorem q_X3_roundDown_12 : decode M_X3_roundDown.2.1 12 = .ok (.putfield 37, 3) ∧ 12 + 3 = 15 := ⟨dcAll_e (i := 6) da_X3_roundDown_0 rfl, rfl⟩
theorem p_RX3_37 : en_Fp RX3 37 1 0 false .int := ⟨RX1, TX1, 3, tyX1, rfl, by decide, rfl, inT1 41 rfl rfl, uw_X1, tyX1_ok, nmX1, rfl, by decide +kernel⟩
theorem q_X3_roundDown_15 : decode M_X3_roundDown.2.1 15 = .ok (.aload_n 0, 1) ∧ 15 + 1 = 16 := ⟨dcAll_e (i := 7) da_X3_roundDown_0 rfl, rfl⟩
theorem q_X3_roundDown_16 : decode M_X3_roundDown.2.1 16 = .ok (.getfield 19, 3) ∧ 16 + 3 = 19 := ⟨dcAll_e (i := 8) da_X3_roundDown_0 rfl, rfl⟩
theorem q_X3_roundDown_19 : decode M_X3_roundDown.2.1 19 = .ok (.getfield 37, 3) ∧ 19 + 3 = 22 := ⟨dcAll_e (i := 9) da_X3_roundDown_0 rfl, rfl⟩
theorem q_X3_roundDown_22 : decode M_X3_roundDown.2.1 22 = .ok (.ifCond .eq 37, 3) ∧ 22 + 3 = 25 ∧ ((22 : Nat) : Int) + 37 = ((59 : Nat) : Int) := ⟨dcAll_e (i := 10) da_X3_roundDown_0 rfl, rfl, rfl⟩
theorem q_X3_roundDown_25 : decode M_X3_roundDown.2.1 25 = .ok (.aload_n 0, 1) ∧ 25 + 1 = 26 := ⟨dcAll_e (i := 11) da_X3_roundDown_0 rfl, rfl⟩
theorem q_X3_roundDown_26 : decode M_X3_roundDown.2.1 26 = .ok (.getfield 22, 3) ∧ 26 + 3 = 29 := ⟨dcAll_e (i := 12) da_X3_roundDown_0 rfl, rfl⟩
theorem q_X3_roundDown_29 : decode M_X3_roundDown.2.1 29 = .ok (.iconst (-1), 1) ∧ 29 + 1 = 30 := ⟨dcAll_e (i := 13) da_X3_roundDown_0 rfl, rfl⟩
theorem q_X3_roundDown_30 : decode M_X3_roundDown.2.1 30 = .ok (.invokevirtual 50, 3) ∧ 30 + 3 = 33 := ⟨dcAll_e (i := 14) da_X3_roundDown_0 rfl, rfl⟩
theorem g_X3_roundDown_30 : en_C M_X3_roundDown M_X1_grow 50 1 := ⟨⟨inT3 136 rfl rfl, in_X1, cd_X1_grow⟩, ⟨by decide, by decide, by decide +kernel⟩, by decide, by decide⟩
theorem q_X3_roundDown_33 : decode M_X3_roundDown.2.1 33 = .ok (.aload_n 0, 1) ∧ 33 + 1 = 34 := ⟨dcAll_e (i := 15) da_X3_roundDown_0 rfl, rfl⟩
theorem q_X3_roundDown_34 : decode M_X3_roundDown.2.1 34 = .ok (.getfield 19, 3) ∧ 34 + 3 = 37 := ⟨dcAll_e (i := 16) da_X3_roundDown_0 rfl, rfl⟩
theorem q_X3_roundDown_37 : decode M_X3_roundDown.2.1 37 = .ok (.aload_n 0, 1) ∧ 37 + 1 = 38 := ⟨dcAll_e (i := 17) da_X3_roundDown_0 rfl, rfl⟩
theorem q_X3_roundDown_38 : decode M_X3_roundDown.2.1 38 = .ok (.getfield 19, 3) ∧ 38 + 3 = 41 := ⟨dcAll_e (i := 18) da_X3_roundDown_0 rfl, rfl⟩
theorem q_X3_roundDown_41 : decode M_X3_roundDown.2.1 41 = .ok (.getfield 37, 3) ∧ 41 + 3 = 44 := ⟨dcAll_e (i := 19) da_X3_roundDown_0 rfl, rfl⟩
theorem q_X3_roundDown_44 : decode M_X3_roundDown.2.1 44 = .ok (.ineg, 1) ∧ 44 + 1 = 45 := ⟨dcAll_e (i := 20) da_X3_roundDown_0 rfl, rfl⟩
theorem q_X3_roundDown_45 : decode M_X3_roundDown.2.1 45 = .ok (.putfield 37, 3) ∧ 45 + 3 = 48 := ⟨dcAll_e (i := 21) da_X3_roundDown_0 rfl, rfl⟩
theorem q_X3_roundDown_48 : decode M_X3_roundDown.2.1 48 = .ok (.aload_n 0, 1) ∧ 48 + 1 = 49 := ⟨dcAll_e (i := 22) da_X3_roundDown_0 rfl, rfl⟩
theorem q_X3_roundDown_49 : decode M_X3_roundDown.2.1 49 = .ok (.getfield 19, 3) ∧ 49 + 3 = 52 := ⟨dcAll_e (i := 23) da_X3_roundDown_0 rfl, rfl⟩
theorem q_X3_roundDown_52 : decode M_X3_roundDown.2.1 52 = .ok (.aload_n 0, 1) ∧ 52 + 1 = 53 := ⟨dcAll_e (i := 24) da_X3_roundDown_0 rfl, rfl⟩
theorem q_X3_roundDown_53 : decode M_X3_roundDown.2.1 53 = .ok (.getfield 16, 3) ∧ 53 + 3 = 56 := ⟨dcAll_e (i := 25) da_X3_roundDown_0 rfl, rfl⟩
theorem q_X3_roundDown_56 : decode M_X3_roundDown.2.1 56 = .ok (.invokevirtual 53, 3) ∧ 56 + 3 = 59 := ⟨dcAll_e (i := 26) da_X3_roundDown_0 rfl, rfl⟩
theorem g_X3_roundDown_56 : en_C M_X3_roundDown M_X1_add 53 1 := ⟨⟨inT3 137 rfl rfl, in_X1, cd_X1_add⟩, ⟨by decide, by decide, by decide +kernel⟩, by decide, by decide⟩
theorem q_X3_roundDown_59 : decode M_X3_roundDown.2.1 59 = .ok (.return_, 1) ∧ 59 + 1 = 60 := ⟨dcAll_e (i := 27) da_X3_roundDown_0 rfl, rfl⟩
def dl_X4_init_0 : List (Nat × Instr × Nat) := [(0, .aload_n 0, 1), (1, .invokespecial 3, 3), (4, .aload_n 0, 1), (5, .new 9, 3), (8, .dup, 1), (9, .invokespecial 11, 3), (12, .putfield 12, 3), (15, .aload_n 0, 1), (16, .new 9, 3), (19, .dup, 1), (20, .invokespecial 11, 3), (23, .putfield 18, 3), (26, .aload_n 0, 1), (27, .new 9, 3), (30, .dup, 1), (31, .invokespecial 11, 3), (34, .putfield 21, 3), (37, .aload_n 0, 1), (38, .new 9, 3), (41, .dup, 1), (42, .invokespecial 11, 3), (45, .putfield 24, 3), (48, .aload_n 0, 1), (49, .new 9, 3), (52, .dup, 1), (53, .invokespecial 11, 3), (56, .putfield 27, 3), (59, .return_, 1)]
theorem da_X4_init_0 : dcAll M_X4_init.2.1 dl_X4_init_0 = true := by decide +kernel
theorem q_X4_init_0 : decode M_X4_init.2.1 0 = .ok (.aload_n 0, 1) ∧ 0 + 1 = 1 := ⟨dcAll_e (i := 0) da_X4_init_0 rfl, rfl⟩
theorem q_X4_init_1 : decode M_X4_init.2.1 1 = .ok (.invokespecial 3, 3) ∧ 1 + 3 = 4 := ⟨dcAll_e (i := 1) da_X4_init_0 rfl, rfl⟩
theorem o_RX4_3 : Cond.methodLink RX4 3 Lib.objectInit ∈ en_tbl := by decide +kernel
theorem q_X4_init_4 : decode M_X4_init.2.1 4 = .ok (.aload_n 0, 1) ∧ 4 + 1 = 5 := ⟨dcAll_e (i := 2) da_X4_init_0 rfl, rfl⟩
theorem q_X4_init_5 : decode M_X4_init.2.1 5 = .ok (.new 9, 3) ∧ 5 + 3 = 8 := ⟨dcAll_e (i := 3) da_X4_init_0 rfl, rfl⟩
theorem n_RX4_9 : en_N RX4 9 1 3 [.int 0, .int 0, .null] := ⟨RX1, TX1, tyX1, rfl, by decide +kernel, by decide +kernel, in_X1, uw_X1, tyX1_ok, fun j hj => by match j, hj with | 0, _ => rfl | 1, _ => rfl | 2, _ => rfl | j + 3, h => omega⟩
theorem q_X4_init_8 : decode M_X4_init.2.1 8 = .ok (.dup, 1) ∧ 8 + 1 = 9 := ⟨dcAll_e (i := 4) da_X4_init_0 rfl, rfl⟩
theorem q_X4_init_9 : decode M_X4_init.2.1 9 = .ok (.invokespecial 11, 3) ∧ 9 + 3 = 12 := ⟨dcAll_e (i := 5) da_X4_init_0 rfl, rfl⟩
theorem g_X4_init_9 : en_CN M_X4_init M_X1_init 11 0 "EnclosedDigits" := ⟨⟨by decide +kernel, in_X1, cd_X1_init⟩, ⟨by decide, by decide, by decide +kernel⟩, by decide, by decide⟩
theorem q_X4_init_12 : decode M_X4_init.2.1 12 = .ok (.putfield 12, 3) ∧ 12 + 3 = 15 := ⟨dcAll_e (i := 6) da_X4_init_0 rfl, rfl⟩
theorem p_RX4_12 : en_Fp RX4 12 4 0 true (.object "EnclosedDigits$Big") := ⟨RX4, TX4, 5, tyX4, rfl, by decide, rfl, inT1 82 rfl rfl, uw_X4, tyX4_ok, nmX4, rfl, by decide +kernel⟩
theorem q_X4_init_15 : decode M_X4_init.2.1 15 = .ok (.aload_n 0, 1) ∧ 15 + 1 = 16 := ⟨dcAll_e (i := 7) da_X4_init_0 rfl, rfl⟩
theorem q_X4_init_16 : decode M_X4_init.2.1 16 = .ok (.new 9, 3) ∧ 16 + 3 = 19 := ⟨dcAll_e (i := 8) da_X4_init_0 rfl, rfl⟩
theorem q_X4_init_19 : decode M_X4_init.2.1 19 = .ok (.dup, 1) ∧ 19 + 1 = 20 := ⟨dcAll_e (i := 9) da_X4_init_0 rfl, rfl⟩
theorem q_X4_init_20 : decode M_X4_init.2.1 20 = .ok (.invokespecial 11, 3) ∧ 20 + 3 = 23 := ⟨dcAll_e (i := 10) da_X4_init_0 rfl, rfl⟩
theorem g_X4_init_20 : en_CN M_X4_init M_X1_init 11 0 "EnclosedDigits" := ⟨⟨by decide +kernel, in_X1, cd_X1_init⟩, ⟨by decide, by decide, by decide +kernel⟩, by decide, by decide⟩
theorem q_X4_init_23 : decode M_X4_init.2.1 23 = .ok (.putfield 18, 3) ∧ 23 + 3 = 26 := ⟨dcAll_e (i := 11) da_X4_init_0 rfl, rfl⟩
theorem p_RX4_18 : en_Fp RX4 18 4 1 true (.object "EnclosedDigits$Big") := ⟨RX4, TX4, 5, tyX4, rfl, by decide, rfl, inT1 83 rfl rfl, uw_X4, tyX4_ok, nmX4, rfl, by decide +kernel⟩
theorem q_X4_init_26 : decode M_X4_init.2.1 26 = .ok (.aload_n 0, 1) ∧ 26 + 1 = 27 := ⟨dcAll_e (i := 12) da_X4_init_0 rfl, rfl⟩
theorem q_X4_init_27 : decode M_X4_init.2.1 27 = .ok (.new 9, 3) ∧ 27 + 3 = 30 := ⟨dcAll_e (i := 13) da_X4_init_0 rfl, rfl⟩
theorem q_X4_init_30 : decode M_X4_init.2.1 30 = .ok (.dup, 1) ∧ 30 + 1 = 31 := ⟨dcAll_e (i := 14) da_X4_init_0 rfl, rfl⟩
theorem q_X4_init_31 : decode M_X4_init.2.1 31 = .ok (.invokespecial 11, 3) ∧ 31 + 3 = 34 := ⟨dcAll_e (i := 15) da_X4_init_0 rfl, rfl⟩
theorem g_X4_init_31 : en_CN M_X4_init M_X1_init 11 0 "EnclosedDigits" := ⟨⟨by decide +kernel, in_X1, cd_X1_init⟩, ⟨by decide, by decide, by decide +kernel⟩, by decide, by decide⟩
theorem q_X4_init_34 : decode M_X4_init.2.1 34 = .ok (.putfield 21, 3) ∧ 34 + 3 = 37 := ⟨dcAll_e (i := 16) da_X4_init_0 rfl, rfl⟩
theorem p_RX4_21 : en_Fp RX4 21 4 2 true (.object "EnclosedDigits$Big") := ⟨RX4, TX4, 5, tyX4, rfl, by decide, rfl, inT1 84 rfl rfl, uw_X4, tyX4_ok, nmX4, rfl, by decide +kernel⟩
theorem q_X4_init_37 : decode M_X4_init.2.1 37 = .ok (.aload_n 0, 1) ∧ 37 + 1 = 38 := ⟨dcAll_e (i := 17) da_X4_init_0 rfl, rfl⟩
theorem q_X4_init_38 : decode M_X4_init.2.1 38 = .ok (.new 9, 3) ∧ 38 + 3 = 41 := ⟨dcAll_e (i := 18) da_X4_init_0 rfl, rfl⟩
theorem q_X4_init_41 : decode M_X4_init.2.1 41 = .ok (.dup, 1) ∧ 41 + 1 = 42 := ⟨dcAll_e (i := 19) da_X4_init_0 rfl, rfl⟩
theorem q_X4_init_42 : decode M_X4_init.2.1 42 = .ok (.invokespecial 11, 3) ∧ 42 + 3 = 45 := ⟨dcAll_e (i := 20) da_X4_init_0 rfl, rfl⟩
theorem g_X4_init_42 : en_CN M_X4_init M_X1_init 11 0 "EnclosedDigits" := ⟨⟨by decide +kernel, in_X1, cd_X1_init⟩, ⟨by decide, by decide, by decide +kernel⟩, by decide, by decide⟩
theorem q_X4_init_45 : decode M_X4_init.2.1 45 = .ok (.putfield 24, 3) ∧ 45 + 3 = 48 := ⟨dcAll_e (i := 21) da_X4_init_0 rfl, rfl⟩
theorem p_RX4_24 : en_Fp RX4 24 4 3 true (.object "EnclosedDigits$Big") := ⟨RX4, TX4, 5, tyX4, rfl, by decide, rfl, inT1 85 rfl rfl, uw_X4, tyX4_ok, nmX4, rfl, by decide +kernel⟩
theorem q_X4_init_48 : decode M_X4_init.2.1 48 = .ok (.aload_n 0, 1) ∧ 48 + 1 = 49 := ⟨dcAll_e (i := 22) da_X4_init_0 rfl, rfl⟩
theorem q_X4_init_49 : decode M_X4_init.2.1 49 = .ok (.new 9, 3) ∧ 49 + 3 = 52 := ⟨dcAll_e (i := 23) da_X4_init_0 rfl, rfl⟩
theorem q_X4_init_52 : decode M_X4_init.2.1 52 = .ok (.dup, 1) ∧ 52 + 1 = 53 := ⟨dcAll_e (i := 24) da_X4_init_0 rfl, rfl⟩
theorem q_X4_init_53 : decode M_X4_init.2.1 53 = .ok (.invokespecial 11, 3) ∧ 53 + 3 = 56 := ⟨dcAll_e (i := 25) da_X4_init_0 rfl, rfl⟩
theorem g_X4_init_53 : en_CN M_X4_init M_X1_init 11 0 "EnclosedDigits" := ⟨⟨by decide +kernel, in_X1, cd_X1_init⟩, ⟨by decide, by decide, by decide +kernel⟩, by decide, by decide⟩
theorem q_X4_init_56 : decode M_X4_init.2.1 56 = .ok (.putfield 27, 3) ∧ 56 + 3 = 59 := ⟨dcAll_e (i := 26) da_X4_init_0 rfl, rfl⟩
theorem p_RX4_27 : en_Fp RX4 27 4 4 true (.object "EnclosedDigits$Big") := ⟨RX4, TX4, 5, tyX4, rfl, by decide, rfl, inT1 86 rfl rfl, uw_X4, tyX4_ok, nmX4, rfl, by decide +kernel⟩
theorem q_X4_init_59 : decode M_X4_init.2.1 59 = .ok (.return_, 1) ∧ 59 + 1 = 60 := ⟨dcAll_e (i := 27) da_X4_init_0 rfl, rfl⟩
def dl_X4_refine_0 : List (Nat × Instr × Nat) := [(0, .bipush 12, 2), (2, .istore_n 3, 1), (3, .aload_n 0, 1), (4, .getfield 27, 3), (7, .ldc2_w 30, 3), (10, .invokevirtual 32, 3), (13, .iconst 0, 1), (14, .istore 4, 2), (16, .iload 4, 2), (18, .bipush 6, 2), (20, .if_icmp .ge 172, 3), (23, .aload_n 1, 1), (24, .getfield 36, 3), (27, .iload_n 2, 1), (28, .if_icmp .ge 164, 3), (31, .aload_n 0, 1), (32, .getfield 21, 3), (35, .invokevirtual 42, 3), (38, .aload_n 0, 1), (39, .getfield 24, 3), (42, .invokevirtual 42, 3), (45, .aload_n 1, 1), (46, .getfield 45, 3), (49, .iconst 4, 1), (50, .if_icmp .ne 21, 3), (53, .aload_n 0, 1), (54, .aload_n 1, 1), (55, .getfield 48, 3), (58, .aload_n 1, 1), (59, .getfield 52, 3), (62, .iload_n 2, 1), (63, .iload_n 3, 1), (64, .iadd, 1), (65, .invokevirtual 55, 3), (68, .goto 27, 3), (71, .aload_n 0, 1), (72, .aload_n 1, 1), (73, .getfield 48, 3), (76, .aload_n 1, 1), (77, .getfield 45, 3)]
theorem da_X4_refine_0 : dcAll M_X4_refine.2.1 dl_X4_refine_0 = true := by decide +kernel
def dl_X4_refine_1 : List (Nat × Instr × Nat) := [(80, .iconst 2, 1), (81, .if_icmp .ne 7, 3), (84, .iconst 1, 1), (85, .goto 4, 3), (88, .iconst 0, 1), (89, .iload_n 2, 1), (90, .iload_n 3, 1), (91, .iadd, 1), (92, .invokevirtual 59, 3), (95, .aload_n 0, 1), (96, .getfield 21, 3), (99, .aload_n 0, 1), (100, .getfield 24, 3), (103, .invokevirtual 63, 3), (106, .aload_n 1, 1), (107, .getfield 67, 3), (110, .aload_n 0, 1), (111, .getfield 21, 3), (114, .invokevirtual 70, 3), (117, .aload_n 1, 1), (118, .getfield 67, 3), (121, .aload_n 0, 1), (122, .getfield 27, 3), (125, .invokevirtual 63, 3), (128, .aload_n 1, 1), (129, .getfield 67, 3), (132, .iload_n 3, 1), (133, .iconst (-1), 1), (134, .invokevirtual 73, 3), (137, .aload_n 0, 1), (138, .getfield 21, 3), (141, .aload_n 0, 1), (142, .getfield 27, 3), (145, .invokevirtual 77, 3), (148, .aload_n 0, 1), (149, .getfield 21, 3), (152, .iload_n 3, 1), (153, .iconst (-1), 1), (154, .invokevirtual 73, 3), (157, .aload_n 0, 1)]
theorem da_X4_refine_1 : dcAll M_X4_refine.2.1 dl_X4_refine_1 = true := by decide +kernel
def dl_X4_refine_2 : List (Nat × Instr × Nat) := [(158, .getfield 21, 3), (161, .aload_n 1, 1), (162, .getfield 67, 3), (165, .invokevirtual 80, 3), (168, .ifCond .eq 9, 3), (171, .iload 4, 2), (173, .iconst 5, 1), (174, .if_icmp .ne 8, 3), (177, .aload_n 1, 1), (178, .iload_n 2, 1), (179, .putfield 36, 3), (182, .iload_n 3, 1), (183, .iconst 2, 1), (184, .imul, 1), (185, .istore_n 3, 1), (186, .iinc 4 1, 3), (189, .goto (-173), 3), (192, .return_, 1)]
theorem da_X4_refine_2 : dcAll M_X4_refine.2.1 dl_X4_refine_2 = true := by decide +kernel
theorem q_X4_refine_0 : decode M_X4_refine.2.1 0 = .ok (.bipush 12, 2) ∧ 0 + 2 = 2 := ⟨dcAll_e (i := 0) da_X4_refine_0 rfl, rfl⟩
theorem q_X4_refine_2 : decode M_X4_refine.2.1 2 = .ok (.istore_n 3, 1) ∧ 2 + 1 = 3 := ⟨dcAll_e (i := 1) da_X4_refine_0 rfl, rfl⟩
theorem q_X4_refine_3 : decode M_X4_refine.2.1 3 = .ok (.aload_n 0, 1) ∧ 3 + 1 = 4 := ⟨dcAll_e (i := 2) da_X4_refine_0 rfl, rfl⟩
theorem q_X4_refine_4 : decode M_X4_refine.2.1 4 = .ok (.getfield 27, 3) ∧ 4 + 3 = 7 := ⟨dcAll_e (i := 3) da_X4_refine_0 rfl, rfl⟩
theorem f_RX4_27 : en_F RX4 27 4 4 := ⟨RX4, TX4, 5, rfl, by decide, rfl, inT1 86 rfl rfl, uw_X4⟩
theorem q_X4_refine_7 : decode M_X4_refine.2.1 7 = .ok (.ldc2_w 30, 3) ∧ 7 + 3 = 10 := ⟨dcAll_e (i := 4) da_X4_refine_0 rfl, rfl⟩
theorem k_RX4_30 : Cond.constantLong RX4 30 (lN 1000000) ∈ en_tbl := by decide +kernel
theorem q_X4_refine_10 : decode M_X4_refine.2.1 10 = .ok (.invokevirtual 32, 3) ∧ 10 + 3 = 13 := ⟨dcAll_e (i := 5) da_X4_refine_0 rfl, rfl⟩
theorem g_X4_refine_10 : en_C M_X4_refine M_X1_setLong 32 1 := ⟨⟨inT2 205 rfl rfl, in_X1, cd_X1_setLong⟩, ⟨by decide, by decide, by decide +kernel⟩, by decide, by decide⟩
theorem q_X4_refine_13 : decode M_X4_refine.2.1 13 = .ok (.iconst 0, 1) ∧ 13 + 1 = 14 := ⟨dcAll_e (i := 6) da_X4_refine_0 rfl, rfl⟩
theorem q_X4_refine_14 : decode M_X4_refine.2.1 14 = .ok (.istore 4, 2) ∧ 14 + 2 = 16 := ⟨dcAll_e (i := 7) da_X4_refine_0 rfl, rfl⟩
theorem q_X4_refine_16 : decode M_X4_refine.2.1 16 = .ok (.iload 4, 2) ∧ 16 + 2 = 18 := ⟨dcAll_e (i := 8) da_X4_refine_0 rfl, rfl⟩
theorem q_X4_refine_18 : decode M_X4_refine.2.1 18 = .ok (.bipush 6, 2) ∧ 18 + 2 = 20 := ⟨dcAll_e (i := 9) da_X4_refine_0 rfl, rfl⟩
theorem q_X4_refine_20 : decode M_X4_refine.2.1 20 = .ok (.if_icmp .ge 172, 3) ∧ 20 + 3 = 23 ∧ ((20 : Nat) : Int) + 172 = ((192 : Nat) : Int) := ⟨dcAll_e (i := 10) da_X4_refine_0 rfl, rfl, rfl⟩
theorem q_X4_refine_23 : decode M_X4_refine.2.1 23 = .ok (.aload_n 1, 1) ∧ 23 + 1 = 24 := ⟨dcAll_e (i := 11) da_X4_refine_0 rfl, rfl⟩
theorem q_X4_refine_24 : decode M_X4_refine.2.1 24 = .ok (.getfield 36, 3) ∧ 24 + 3 = 27 := ⟨dcAll_e (i := 12) da_X4_refine_0 rfl, rfl⟩
theorem f_RX4_36 : en_F RX4 36 5 9 := ⟨RX5, TX5, 11, rfl, by decide, rfl, inT1 233 rfl rfl, uw_X5⟩
theorem q_X4_refine_27 : decode M_X4_refine.2.1 27 = .ok (.iload_n 2, 1) ∧ 27 + 1 = 28 := ⟨dcAll_e (i := 13) da_X4_refine_0 rfl, rfl⟩
theorem q_X4_refine_28 : decode M_X4_refine.2.1 28 = .ok (.if_icmp .ge 164, 3) ∧ 28 + 3 = 31 ∧ ((28 : Nat) : Int) + 164 = ((192 : Nat) : Int) := ⟨dcAll_e (i := 14) da_X4_refine_0 rfl, rfl, rfl⟩
theorem q_X4_refine_31 : decode M_X4_refine.2.1 31 = .ok (.aload_n 0, 1) ∧ 31 + 1 = 32 := ⟨dcAll_e (i := 15) da_X4_refine_0 rfl, rfl⟩
theorem q_X4_refine_32 : decode M_X4_refine.2.1 32 = .ok (.getfield 21, 3) ∧ 32 + 3 = 35 := ⟨dcAll_e (i := 16) da_X4_refine_0 rfl, rfl⟩
theorem f_RX4_21 : en_F RX4 21 4 2 := ⟨RX4, TX4, 5, rfl, by decide, rfl, inT1 84 rfl rfl, uw_X4⟩
theorem q_X4_refine_35 : decode M_X4_refine.2.1 35 = .ok (.invokevirtual 42, 3) ∧ 35 + 3 = 38 := ⟨dcAll_e (i := 17) da_X4_refine_0 rfl, rfl⟩
theorem g_X4_refine_35 : en_C M_X4_refine M_X1_clear 42 0 := ⟨⟨inT2 206 rfl rfl, in_X1, cd_X1_clear⟩, ⟨by decide, by decide, by decide +kernel⟩, by decide, by decide⟩
theorem q_X4_refine_38 : decode M_X4_refine.2.1 38 = .ok (.aload_n 0, 1) ∧ 38 + 1 = 39 := ⟨dcAll_e (i := 18) da_X4_refine_0 rfl, rfl⟩
theorem q_X4_refine_39 : decode M_X4_refine.2.1 39 = .ok (.getfield 24, 3) ∧ 39 + 3 = 42 := ⟨dcAll_e (i := 19) da_X4_refine_0 rfl, rfl⟩
theorem f_RX4_24 : en_F RX4 24 4 3 := ⟨RX4, TX4, 5, rfl, by decide, rfl, inT1 85 rfl rfl, uw_X4⟩
theorem q_X4_refine_42 : decode M_X4_refine.2.1 42 = .ok (.invokevirtual 42, 3) ∧ 42 + 3 = 45 := ⟨dcAll_e (i := 20) da_X4_refine_0 rfl, rfl⟩
theorem g_X4_refine_42 : en_C M_X4_refine M_X1_clear 42 0 := ⟨⟨inT2 206 rfl rfl, in_X1, cd_X1_clear⟩, ⟨by decide, by decide, by decide +kernel⟩, by decide, by decide⟩
theorem q_X4_refine_45 : decode M_X4_refine.2.1 45 = .ok (.aload_n 1, 1) ∧ 45 + 1 = 46 := ⟨dcAll_e (i := 21) da_X4_refine_0 rfl, rfl⟩
theorem q_X4_refine_46 : decode M_X4_refine.2.1 46 = .ok (.getfield 45, 3) ∧ 46 + 3 = 49 := ⟨dcAll_e (i := 22) da_X4_refine_0 rfl, rfl⟩
theorem f_RX4_45 : en_F RX4 45 5 0 := ⟨RX5, TX5, 11, rfl, by decide, rfl, inT1 210 rfl rfl, uw_X5⟩
theorem q_X4_refine_49 : decode M_X4_refine.2.1 49 = .ok (.iconst 4, 1) ∧ 49 + 1 = 50 := ⟨dcAll_e (i := 23) da_X4_refine_0 rfl, rfl⟩
theorem q_X4_refine_50 : decode M_X4_refine.2.1 50 = .ok (.if_icmp .ne 21, 3) ∧ 50 + 3 = 53 ∧ ((50 : Nat) : Int) + 21 = ((71 : Nat) : Int) := ⟨dcAll_e (i := 24) da_X4_refine_0 rfl, rfl, rfl⟩
theorem q_X4_refine_53 : decode M_X4_refine.2.1 53 = .ok (.aload_n 0, 1) ∧ 53 + 1 = 54 := ⟨dcAll_e (i := 25) da_X4_refine_0 rfl, rfl⟩
theorem q_X4_refine_54 : decode M_X4_refine.2.1 54 = .ok (.aload_n 1, 1) ∧ 54 + 1 = 55 := ⟨dcAll_e (i := 26) da_X4_refine_0 rfl, rfl⟩
theorem q_X4_refine_55 : decode M_X4_refine.2.1 55 = .ok (.getfield 48, 3) ∧ 55 + 3 = 58 := ⟨dcAll_e (i := 27) da_X4_refine_0 rfl, rfl⟩
theorem f_RX4_48 : en_F RX4 48 5 1 := ⟨RX5, TX5, 11, rfl, by decide, rfl, inT1 213 rfl rfl, uw_X5⟩
theorem q_X4_refine_58 : decode M_X4_refine.2.1 58 = .ok (.aload_n 1, 1) ∧ 58 + 1 = 59 := ⟨dcAll_e (i := 28) da_X4_refine_0 rfl, rfl⟩
theorem q_X4_refine_59 : decode M_X4_refine.2.1 59 = .ok (.getfield 52, 3) ∧ 59 + 3 = 62 := ⟨dcAll_e (i := 29) da_X4_refine_0 rfl, rfl⟩
theorem f_RX4_52 : en_F RX4 52 5 2 := ⟨RX5, TX5, 11, rfl, by decide, rfl, inT1 216 rfl rfl, uw_X5⟩
theorem q_X4_refine_62 : decode M_X4_refine.2.1 62 = .ok (.iload_n 2, 1) ∧ 62 + 1 = 63 := ⟨dcAll_e (i := 30) da_X4_refine_0 rfl, rfl⟩
theorem q_X4_refine_63 : decode M_X4_refine.2.1 63 = .ok (.iload_n 3, 1) ∧ 63 + 1 = 64 := ⟨dcAll_e (i := 31) da_X4_refine_0 rfl, rfl⟩
theorem q_X4_refine_64 : decode M_X4_refine.2.1 64 = .ok (.iadd, 1) ∧ 64 + 1 = 65 := ⟨dcAll_e (i := 32) da_X4_refine_0 rfl, rfl⟩
theorem q_X4_refine_65 : decode M_X4_refine.2.1 65 = .ok (.invokevirtual 55, 3) ∧ 65 + 3 = 68 := ⟨dcAll_e (i := 33) da_X4_refine_0 rfl, rfl⟩
theorem cd_X4_sumPower : Cond.code M_X4_sumPower.1 M_X4_sumPower.2.1 M_X4_sumPower.2.2.1 M_X4_sumPower.2.2.2.1 ∈ en_tbl := inT2 210 rfl rfl
theorem g_X4_refine_65 : en_C M_X4_refine M_X4_sumPower 55 3 := ⟨⟨inT2 207 rfl rfl, in_X4, cd_X4_sumPower⟩, ⟨by decide, by decide, by decide +kernel⟩, by decide, by decide⟩
theorem w_X4_sumPower : Cond.instanceMethod M_X4_sumPower.1 ∈ en_tbl ∧ Cond.selects M_X4_sumPower.1.cls M_X4_sumPower.1 M_X4_sumPower.1 ∈ en_tbl := ⟨inT2 209 rfl rfl, by decide +kernel⟩
theorem q_X4_refine_68 : decode M_X4_refine.2.1 68 = .ok (.goto 27, 3) ∧ 68 + 3 = 71 ∧ ((68 : Nat) : Int) + 27 = ((95 : Nat) : Int) := ⟨dcAll_e (i := 34) da_X4_refine_0 rfl, rfl, rfl⟩
theorem q_X4_refine_71 : decode M_X4_refine.2.1 71 = .ok (.aload_n 0, 1) ∧ 71 + 1 = 72 := ⟨dcAll_e (i := 35) da_X4_refine_0 rfl, rfl⟩
theorem q_X4_refine_72 : decode M_X4_refine.2.1 72 = .ok (.aload_n 1, 1) ∧ 72 + 1 = 73 := ⟨dcAll_e (i := 36) da_X4_refine_0 rfl, rfl⟩
theorem q_X4_refine_73 : decode M_X4_refine.2.1 73 = .ok (.getfield 48, 3) ∧ 73 + 3 = 76 := ⟨dcAll_e (i := 37) da_X4_refine_0 rfl, rfl⟩
theorem q_X4_refine_76 : decode M_X4_refine.2.1 76 = .ok (.aload_n 1, 1) ∧ 76 + 1 = 77 := ⟨dcAll_e (i := 38) da_X4_refine_0 rfl, rfl⟩
theorem q_X4_refine_77 : decode M_X4_refine.2.1 77 = .ok (.getfield 45, 3) ∧ 77 + 3 = 80 := ⟨dcAll_e (i := 39) da_X4_refine_0 rfl, rfl⟩
theorem q_X4_refine_80 : decode M_X4_refine.2.1 80 = .ok (.iconst 2, 1) ∧ 80 + 1 = 81 := ⟨dcAll_e (i := 0) da_X4_refine_1 rfl, rfl⟩
theorem q_X4_refine_81 : decode M_X4_refine.2.1 81 = .ok (.if_icmp .ne 7, 3) ∧ 81 + 3 = 84 ∧ ((81 : Nat) : Int) + 7 = ((88 : Nat) : Int) := ⟨dcAll_e (i := 1) da_X4_refine_1 rfl, rfl, rfl⟩
theorem q_X4_refine_84 : decode M_X4_refine.2.1 84 = .ok (.iconst 1, 1) ∧ 84 + 1 = 85 := ⟨dcAll_e (i := 2) da_X4_refine_1 rfl, rfl⟩
theorem q_X4_refine_85 : decode M_X4_refine.2.1 85 = .ok (.goto 4, 3) ∧ 85 + 3 = 88 ∧ ((85 : Nat) : Int) + 4 = ((89 : Nat) : Int) := ⟨dcAll_e (i := 3) da_X4_refine_1 rfl, rfl, rfl⟩
theorem q_X4_refine_88 : decode M_X4_refine.2.1 88 = .ok (.iconst 0, 1) ∧ 88 + 1 = 89 := ⟨dcAll_e (i := 4) da_X4_refine_1 rfl, rfl⟩
theorem q_X4_refine_89 : decode M_X4_refine.2.1 89 = .ok (.iload_n 2, 1) ∧ 89 + 1 = 90 := ⟨dcAll_e (i := 5) da_X4_refine_1 rfl, rfl⟩
theorem q_X4_refine_90 : decode M_X4_refine.2.1 90 = .ok (.iload_n 3, 1) ∧ 90 + 1 = 91 := ⟨dcAll_e (i := 6) da_X4_refine_1 rfl, rfl⟩
theorem q_X4_refine_91 : decode M_X4_refine.2.1 91 = .ok (.iadd, 1) ∧ 91 + 1 = 92 := ⟨dcAll_e (i := 7) da_X4_refine_1 rfl, rfl⟩
theorem q_X4_refine_92 : decode M_X4_refine.2.1 92 = .ok (.invokevirtual 59, 3) ∧ 92 + 3 = 95 := ⟨dcAll_e (i := 8) da_X4_refine_1 rfl, rfl⟩
theorem cd_X4_sumTangent : Cond.code M_X4_sumTangent.1 M_X4_sumTangent.2.1 M_X4_sumTangent.2.2.1 M_X4_sumTangent.2.2.2.1 ∈ en_tbl := inT2 237 rfl rfl
theorem g_X4_refine_92 : en_C M_X4_refine M_X4_sumTangent 59 3 := ⟨⟨inT2 234 rfl rfl, in_X4, cd_X4_sumTangent⟩, ⟨by decide, by decide, by decide +kernel⟩, by decide, by decide⟩
theorem w_X4_sumTangent : Cond.instanceMethod M_X4_sumTangent.1 ∈ en_tbl ∧ Cond.selects M_X4_sumTangent.1.cls M_X4_sumTangent.1 M_X4_sumTangent.1 ∈ en_tbl := ⟨inT2 236 rfl rfl, by decide +kernel⟩
theorem q_X4_refine_95 : decode M_X4_refine.2.1 95 = .ok (.aload_n 0, 1) ∧ 95 + 1 = 96 := ⟨dcAll_e (i := 9) da_X4_refine_1 rfl, rfl⟩
theorem q_X4_refine_96 : decode M_X4_refine.2.1 96 = .ok (.getfield 21, 3) ∧ 96 + 3 = 99 := ⟨dcAll_e (i := 10) da_X4_refine_1 rfl, rfl⟩
theorem q_X4_refine_99 : decode M_X4_refine.2.1 99 = .ok (.aload_n 0, 1) ∧ 99 + 1 = 100 := ⟨dcAll_e (i := 11) da_X4_refine_1 rfl, rfl⟩
theorem q_X4_refine_100 : decode M_X4_refine.2.1 100 = .ok (.getfield 24, 3) ∧ 100 + 3 = 103 := ⟨dcAll_e (i := 12) da_X4_refine_1 rfl, rfl⟩
theorem q_X4_refine_103 : decode M_X4_refine.2.1 103 = .ok (.invokevirtual 63, 3) ∧ 103 + 3 = 106 := ⟨dcAll_e (i := 13) da_X4_refine_1 rfl, rfl⟩
theorem cd_X1_subtract : Cond.code M_X1_subtract.1 M_X1_subtract.2.1 M_X1_subtract.2.2.1 M_X1_subtract.2.2.2.1 ∈ en_tbl := inT3 4 rfl rfl
theorem g_X4_refine_103 : en_C M_X4_refine M_X1_subtract 63 1 := ⟨⟨inT3 1 rfl rfl, in_X1, cd_X1_subtract⟩, ⟨by decide, by decide, by decide +kernel⟩, by decide, by decide⟩
theorem w_X1_subtract : Cond.instanceMethod M_X1_subtract.1 ∈ en_tbl ∧ Cond.selects M_X1_subtract.1.cls M_X1_subtract.1 M_X1_subtract.1 ∈ en_tbl := ⟨inT3 2 rfl rfl, inT3 3 rfl rfl⟩
theorem q_X4_refine_106 : decode M_X4_refine.2.1 106 = .ok (.aload_n 1, 1) ∧ 106 + 1 = 107 := ⟨dcAll_e (i := 14) da_X4_refine_1 rfl, rfl⟩
theorem q_X4_refine_107 : decode M_X4_refine.2.1 107 = .ok (.getfield 67, 3) ∧ 107 + 3 = 110 := ⟨dcAll_e (i := 15) da_X4_refine_1 rfl, rfl⟩
theorem f_RX4_67 : en_F RX4 67 5 10 := ⟨RX5, TX5, 11, rfl, by decide, rfl, inT1 236 rfl rfl, uw_X5⟩
theorem q_X4_refine_110 : decode M_X4_refine.2.1 110 = .ok (.aload_n 0, 1) ∧ 110 + 1 = 111 := ⟨dcAll_e (i := 16) da_X4_refine_1 rfl, rfl⟩
theorem q_X4_refine_111 : decode M_X4_refine.2.1 111 = .ok (.getfield 21, 3) ∧ 111 + 3 = 114 := ⟨dcAll_e (i := 17) da_X4_refine_1 rfl, rfl⟩
theorem q_X4_refine_114 : decode M_X4_refine.2.1 114 = .ok (.invokevirtual 70, 3) ∧ 114 + 3 = 117 := ⟨dcAll_e (i := 18) da_X4_refine_1 rfl, rfl⟩
theorem g_X4_refine_114 : en_C M_X4_refine M_X1_copy 70 1 := ⟨⟨inT2 239 rfl rfl, in_X1, cd_X1_copy⟩, ⟨by decide, by decide, by decide +kernel⟩, by decide, by decide⟩
theorem q_X4_refine_117 : decode M_X4_refine.2.1 117 = .ok (.aload_n 1, 1) ∧ 117 + 1 = 118 := ⟨dcAll_e (i := 19) da_X4_refine_1 rfl, rfl⟩
theorem q_X4_refine_118 : decode M_X4_refine.2.1 118 = .ok (.getfield 67, 3) ∧ 118 + 3 = 121 := ⟨dcAll_e (i := 20) da_X4_refine_1 rfl, rfl⟩
theorem q_X4_refine_121 : decode M_X4_refine.2.1 121 = .ok (.aload_n 0, 1) ∧ 121 + 1 = 122 := ⟨dcAll_e (i := 21) da_X4_refine_1 rfl, rfl⟩
theorem q_X4_refine_122 : decode M_X4_refine.2.1 122 = .ok (.getfield 27, 3) ∧ 122 + 3 = 125 := ⟨dcAll_e (i := 22) da_X4_refine_1 rfl, rfl⟩
theorem q_X4_refine_125 : decode M_X4_refine.2.1 125 = .ok (.invokevirtual 63, 3) ∧ 125 + 3 = 128 := ⟨dcAll_e (i := 23) da_X4_refine_1 rfl, rfl⟩
theorem g_X4_refine_125 : en_C M_X4_refine M_X1_subtract 63 1 := ⟨⟨inT3 1 rfl rfl, in_X1, cd_X1_subtract⟩, ⟨by decide, by decide, by decide +kernel⟩, by decide, by decide⟩
theorem q_X4_refine_128 : decode M_X4_refine.2.1 128 = .ok (.aload_n 1, 1) ∧ 128 + 1 = 129 := ⟨dcAll_e (i := 24) da_X4_refine_1 rfl, rfl⟩
theorem q_X4_refine_129 : decode M_X4_refine.2.1 129 = .ok (.getfield 67, 3) ∧ 129 + 3 = 132 := ⟨dcAll_e (i := 25) da_X4_refine_1 rfl, rfl⟩
theorem q_X4_refine_132 : decode M_X4_refine.2.1 132 = .ok (.iload_n 3, 1) ∧ 132 + 1 = 133 := ⟨dcAll_e (i := 26) da_X4_refine_1 rfl, rfl⟩
theorem q_X4_refine_133 : decode M_X4_refine.2.1 133 = .ok (.iconst (-1), 1) ∧ 133 + 1 = 134 := ⟨dcAll_e (i := 27) da_X4_refine_1 rfl, rfl⟩
theorem q_X4_refine_134 : decode M_X4_refine.2.1 134 = .ok (.invokevirtual 73, 3) ∧ 134 + 3 = 137 := ⟨dcAll_e (i := 28) da_X4_refine_1 rfl, rfl⟩
theorem g_X4_refine_134 : en_C M_X4_refine M_X1_shrink 73 2 := ⟨⟨inT3 6 rfl rfl, in_X1, cd_X1_shrink⟩, ⟨by decide, by decide, by decide +kernel⟩, by decide, by decide⟩
theorem q_X4_refine_137 : decode M_X4_refine.2.1 137 = .ok (.aload_n 0, 1) ∧ 137 + 1 = 138 := ⟨dcAll_e (i := 29) da_X4_refine_1 rfl, rfl⟩
theorem q_X4_refine_138 : decode M_X4_refine.2.1 138 = .ok (.getfield 21, 3) ∧ 138 + 3 = 141 := ⟨dcAll_e (i := 30) da_X4_refine_1 rfl, rfl⟩
theorem q_X4_refine_141 : decode M_X4_refine.2.1 141 = .ok (.aload_n 0, 1) ∧ 141 + 1 = 142 := ⟨dcAll_e (i := 31) da_X4_refine_1 rfl, rfl⟩
theorem q_X4_refine_142 : decode M_X4_refine.2.1 142 = .ok (.getfield 27, 3) ∧ 142 + 3 = 145 := ⟨dcAll_e (i := 32) da_X4_refine_1 rfl, rfl⟩
theorem q_X4_refine_145 : decode M_X4_refine.2.1 145 = .ok (.invokevirtual 77, 3) ∧ 145 + 3 = 148 := ⟨dcAll_e (i := 33) da_X4_refine_1 rfl, rfl⟩
theorem g_X4_refine_145 : en_C M_X4_refine M_X1_add 77 1 := ⟨⟨inT2 212 rfl rfl, in_X1, cd_X1_add⟩, ⟨by decide, by decide, by decide +kernel⟩, by decide, by decide⟩
theorem q_X4_refine_148 : decode M_X4_refine.2.1 148 = .ok (.aload_n 0, 1) ∧ 148 + 1 = 149 := ⟨dcAll_e (i := 34) da_X4_refine_1 rfl, rfl⟩
theorem q_X4_refine_149 : decode M_X4_refine.2.1 149 = .ok (.getfield 21, 3) ∧ 149 + 3 = 152 := ⟨dcAll_e (i := 35) da_X4_refine_1 rfl, rfl⟩
theorem q_X4_refine_152 : decode M_X4_refine.2.1 152 = .ok (.iload_n 3, 1) ∧ 152 + 1 = 153 := ⟨dcAll_e (i := 36) da_X4_refine_1 rfl, rfl⟩
theorem q_X4_refine_153 : decode M_X4_refine.2.1 153 = .ok (.iconst (-1), 1) ∧ 153 + 1 = 154 := ⟨dcAll_e (i := 37) da_X4_refine_1 rfl, rfl⟩
theorem q_X4_refine_154 : decode M_X4_refine.2.1 154 = .ok (.invokevirtual 73, 3) ∧ 154 + 3 = 157 := ⟨dcAll_e (i := 38) da_X4_refine_1 rfl, rfl⟩
theorem g_X4_refine_154 : en_C M_X4_refine M_X1_shrink 73 2 := ⟨⟨inT3 6 rfl rfl, in_X1, cd_X1_shrink⟩, ⟨by decide, by decide, by decide +kernel⟩, by decide, by decide⟩
theorem q_X4_refine_157 : decode M_X4_refine.2.1 157 = .ok (.aload_n 0, 1) ∧ 157 + 1 = 158 := ⟨dcAll_e (i := 39) da_X4_refine_1 rfl, rfl⟩
theorem q_X4_refine_158 : decode M_X4_refine.2.1 158 = .ok (.getfield 21, 3) ∧ 158 + 3 = 161 := ⟨dcAll_e (i := 0) da_X4_refine_2 rfl, rfl⟩
theorem q_X4_refine_161 : decode M_X4_refine.2.1 161 = .ok (.aload_n 1, 1) ∧ 161 + 1 = 162 := ⟨dcAll_e (i := 1) da_X4_refine_2 rfl, rfl⟩
theorem q_X4_refine_162 : decode M_X4_refine.2.1 162 = .ok (.getfield 67, 3) ∧ 162 + 3 = 165 := ⟨dcAll_e (i := 2) da_X4_refine_2 rfl, rfl⟩
theorem q_X4_refine_165 : decode M_X4_refine.2.1 165 = .ok (.invokevirtual 80, 3) ∧ 165 + 3 = 168 := ⟨dcAll_e (i := 3) da_X4_refine_2 rfl, rfl⟩
theorem g_X4_refine_165 : en_C M_X4_refine M_X1_compare 80 1 := ⟨⟨inT3 16 rfl rfl, in_X1, cd_X1_compare⟩, ⟨by decide, by decide, by decide +kernel⟩, by decide, by decide⟩
theorem q_X4_refine_168 : decode M_X4_refine.2.1 168 = .ok (.ifCond .eq 9, 3) ∧ 168 + 3 = 171 ∧ ((168 : Nat) : Int) + 9 = ((177 : Nat) : Int) := ⟨dcAll_e (i := 4) da_X4_refine_2 rfl, rfl, rfl⟩
theorem q_X4_refine_171 : decode M_X4_refine.2.1 171 = .ok (.iload 4, 2) ∧ 171 + 2 = 173 := ⟨dcAll_e (i := 5) da_X4_refine_2 rfl, rfl⟩
theorem q_X4_refine_173 : decode M_X4_refine.2.1 173 = .ok (.iconst 5, 1) ∧ 173 + 1 = 174 := ⟨dcAll_e (i := 6) da_X4_refine_2 rfl, rfl⟩
theorem q_X4_refine_174 : decode M_X4_refine.2.1 174 = .ok (.if_icmp .ne 8, 3) ∧ 174 + 3 = 177 ∧ ((174 : Nat) : Int) + 8 = ((182 : Nat) : Int) := ⟨dcAll_e (i := 7) da_X4_refine_2 rfl, rfl, rfl⟩
theorem q_X4_refine_177 : decode M_X4_refine.2.1 177 = .ok (.aload_n 1, 1) ∧ 177 + 1 = 178 := ⟨dcAll_e (i := 8) da_X4_refine_2 rfl, rfl⟩
theorem q_X4_refine_178 : decode M_X4_refine.2.1 178 = .ok (.iload_n 2, 1) ∧ 178 + 1 = 179 := ⟨dcAll_e (i := 9) da_X4_refine_2 rfl, rfl⟩
theorem q_X4_refine_179 : decode M_X4_refine.2.1 179 = .ok (.putfield 36, 3) ∧ 179 + 3 = 182 := ⟨dcAll_e (i := 10) da_X4_refine_2 rfl, rfl⟩
theorem p_RX4_36 : en_Fp RX4 36 5 9 false .int := ⟨RX5, TX5, 11, tyX5, rfl, by decide, rfl, inT1 233 rfl rfl, uw_X5, tyX5_ok, nmX5, rfl, by decide +kernel⟩
theorem q_X4_refine_182 : decode M_X4_refine.2.1 182 = .ok (.iload_n 3, 1) ∧ 182 + 1 = 183 := ⟨dcAll_e (i := 11) da_X4_refine_2 rfl, rfl⟩
theorem q_X4_refine_183 : decode M_X4_refine.2.1 183 = .ok (.iconst 2, 1) ∧ 183 + 1 = 184 := ⟨dcAll_e (i := 12) da_X4_refine_2 rfl, rfl⟩
theorem q_X4_refine_184 : decode M_X4_refine.2.1 184 = .ok (.imul, 1) ∧ 184 + 1 = 185 := ⟨dcAll_e (i := 13) da_X4_refine_2 rfl, rfl⟩
theorem q_X4_refine_185 : decode M_X4_refine.2.1 185 = .ok (.istore_n 3, 1) ∧ 185 + 1 = 186 := ⟨dcAll_e (i := 14) da_X4_refine_2 rfl, rfl⟩
theorem q_X4_refine_186 : decode M_X4_refine.2.1 186 = .ok (.iinc 4 1, 3) ∧ 186 + 3 = 189 := ⟨dcAll_e (i := 15) da_X4_refine_2 rfl, rfl⟩
theorem q_X4_refine_189 : decode M_X4_refine.2.1 189 = .ok (.goto (-173), 3) ∧ 189 + 3 = 192 ∧ ((189 : Nat) : Int) + (-173) = ((16 : Nat) : Int) := ⟨dcAll_e (i := 16) da_X4_refine_2 rfl, rfl, rfl⟩
theorem q_X4_refine_192 : decode M_X4_refine.2.1 192 = .ok (.return_, 1) ∧ 192 + 1 = 193 := ⟨dcAll_e (i := 17) da_X4_refine_2 rfl, rfl⟩
def dl_X4_sumTangent_0 : List (Nat × Instr × Nat) := [(0, .lload_n 1, 1), (1, .ldc2_w 84, 3), (4, .lcmp, 1), (5, .ifCond .gt 7, 3), (8, .iconst 1, 1), (9, .goto 4, 3), (12, .iconst 0, 1), (13, .istore 5, 2), (15, .aload_n 0, 1), (16, .getfield 12, 3), (19, .lconst 1, 1), (20, .invokevirtual 32, 3), (23, .aload_n 0, 1), (24, .getfield 12, 3), (27, .iload 4, 2), (29, .invokevirtual 86, 3), (32, .aload_n 0, 1), (33, .getfield 12, 3), (36, .lload_n 1, 1), (37, .invokevirtual 90, 3), (40, .pop2, 1), (41, .iconst 0, 1), (42, .istore 6, 2), (44, .iload 6, 2), (46, .sipush 10000, 3), (49, .if_icmp .ge 115, 3), (52, .aload_n 0, 1), (53, .getfield 12, 3), (56, .getfield 94, 3), (59, .ifCond .eq 105, 3), (62, .aload_n 0, 1), (63, .getfield 18, 3), (66, .aload_n 0, 1), (67, .getfield 12, 3), (70, .invokevirtual 70, 3), (73, .aload_n 0, 1), (74, .getfield 18, 3), (77, .ldc2_w 97, 3), (80, .iload 6, 2), (82, .i2l, 1)]
theorem da_X4_sumTangent_0 : dcAll M_X4_sumTangent.2.1 dl_X4_sumTangent_0 = true := by decide +kernel
def dl_X4_sumTangent_1 : List (Nat × Instr × Nat) := [(83, .lmul, 1), (84, .lconst 1, 1), (85, .ladd, 1), (86, .invokevirtual 90, 3), (89, .pop2, 1), (90, .iload_n 3, 1), (91, .ifCond .eq 18, 3), (94, .iload 6, 2), (96, .iconst 2, 1), (97, .irem, 1), (98, .iconst 1, 1), (99, .if_icmp .ne 10, 3), (102, .aload_n 0, 1), (103, .getfield 24, 3), (106, .goto 7, 3), (109, .aload_n 0, 1), (110, .getfield 21, 3), (113, .astore 7, 2), (115, .aload 7, 2), (117, .aload_n 0, 1), (118, .getfield 18, 3), (121, .invokevirtual 77, 3), (124, .aload_n 0, 1), (125, .getfield 12, 3), (128, .iload 5, 2), (130, .ifCond .eq 9, 3), (133, .lload_n 1, 1), (134, .lload_n 1, 1), (135, .lmul, 1), (136, .goto 4, 3), (139, .lload_n 1, 1), (140, .invokevirtual 90, 3), (143, .pop2, 1), (144, .iload 5, 2), (146, .ifCond .ne 12, 3), (149, .aload_n 0, 1), (150, .getfield 12, 3), (153, .lload_n 1, 1), (154, .invokevirtual 90, 3), (157, .pop2, 1)]
theorem da_X4_sumTangent_1 : dcAll M_X4_sumTangent.2.1 dl_X4_sumTangent_1 = true := by decide +kernel
def dl_X4_sumTangent_2 : List (Nat × Instr × Nat) := [(158, .iinc 6 1, 3), (161, .goto (-117), 3), (164, .return_, 1)]
theorem da_X4_sumTangent_2 : dcAll M_X4_sumTangent.2.1 dl_X4_sumTangent_2 = true := by decide +kernel
theorem q_X4_sumTangent_0 : decode M_X4_sumTangent.2.1 0 = .ok (.lload_n 1, 1) ∧ 0 + 1 = 1 := ⟨dcAll_e (i := 0) da_X4_sumTangent_0 rfl, rfl⟩
theorem q_X4_sumTangent_1 : decode M_X4_sumTangent.2.1 1 = .ok (.ldc2_w 84, 3) ∧ 1 + 3 = 4 := ⟨dcAll_e (i := 1) da_X4_sumTangent_0 rfl, rfl⟩
theorem k_RX4_84 : Cond.constantLong RX4 84 (lN 90000) ∈ en_tbl := by decide +kernel
theorem q_X4_sumTangent_4 : decode M_X4_sumTangent.2.1 4 = .ok (.lcmp, 1) ∧ 4 + 1 = 5 := ⟨dcAll_e (i := 2) da_X4_sumTangent_0 rfl, rfl⟩
theorem q_X4_sumTangent_5 : decode M_X4_sumTangent.2.1 5 = .ok (.ifCond .gt 7, 3) ∧ 5 + 3 = 8 ∧ ((5 : Nat) : Int) + 7 = ((12 : Nat) : Int) := ⟨dcAll_e (i := 3) da_X4_sumTangent_0 rfl, rfl, rfl⟩
theorem q_X4_sumTangent_8 : decode M_X4_sumTangent.2.1 8 = .ok (.iconst 1, 1) ∧ 8 + 1 = 9 := ⟨dcAll_e (i := 4) da_X4_sumTangent_0 rfl, rfl⟩
theorem q_X4_sumTangent_9 : decode M_X4_sumTangent.2.1 9 = .ok (.goto 4, 3) ∧ 9 + 3 = 12 ∧ ((9 : Nat) : Int) + 4 = ((13 : Nat) : Int) := ⟨dcAll_e (i := 5) da_X4_sumTangent_0 rfl, rfl, rfl⟩
theorem q_X4_sumTangent_12 : decode M_X4_sumTangent.2.1 12 = .ok (.iconst 0, 1) ∧ 12 + 1 = 13 := ⟨dcAll_e (i := 6) da_X4_sumTangent_0 rfl, rfl⟩
theorem q_X4_sumTangent_13 : decode M_X4_sumTangent.2.1 13 = .ok (.istore 5, 2) ∧ 13 + 2 = 15 := ⟨dcAll_e (i := 7) da_X4_sumTangent_0 rfl, rfl⟩
theorem q_X4_sumTangent_15 : decode M_X4_sumTangent.2.1 15 = .ok (.aload_n 0, 1) ∧ 15 + 1 = 16 := ⟨dcAll_e (i := 8) da_X4_sumTangent_0 rfl, rfl⟩
theorem q_X4_sumTangent_16 : decode M_X4_sumTangent.2.1 16 = .ok (.getfield 12, 3) ∧ 16 + 3 = 19 := ⟨dcAll_e (i := 9) da_X4_sumTangent_0 rfl, rfl⟩
theorem f_RX4_12 : en_F RX4 12 4 0 := ⟨RX4, TX4, 5, rfl, by decide, rfl, inT1 82 rfl rfl, uw_X4⟩
theorem q_X4_sumTangent_19 : decode M_X4_sumTangent.2.1 19 = .ok (.lconst 1, 1) ∧ 19 + 1 = 20 := ⟨dcAll_e (i := 10) da_X4_sumTangent_0 rfl, rfl⟩
theorem q_X4_sumTangent_20 : decode M_X4_sumTangent.2.1 20 = .ok (.invokevirtual 32, 3) ∧ 20 + 3 = 23 := ⟨dcAll_e (i := 11) da_X4_sumTangent_0 rfl, rfl⟩
theorem g_X4_sumTangent_20 : en_C M_X4_sumTangent M_X1_setLong 32 1 := ⟨⟨inT2 205 rfl rfl, in_X1, cd_X1_setLong⟩, ⟨by decide, by decide, by decide +kernel⟩, by decide, by decide⟩
theorem q_X4_sumTangent_23 : decode M_X4_sumTangent.2.1 23 = .ok (.aload_n 0, 1) ∧ 23 + 1 = 24 := ⟨dcAll_e (i := 12) da_X4_sumTangent_0 rfl, rfl⟩
theorem q_X4_sumTangent_24 : decode M_X4_sumTangent.2.1 24 = .ok (.getfield 12, 3) ∧ 24 + 3 = 27 := ⟨dcAll_e (i := 13) da_X4_sumTangent_0 rfl, rfl⟩
theorem q_X4_sumTangent_27 : decode M_X4_sumTangent.2.1 27 = .ok (.iload 4, 2) ∧ 27 + 2 = 29 := ⟨dcAll_e (i := 14) da_X4_sumTangent_0 rfl, rfl⟩
theorem q_X4_sumTangent_29 : decode M_X4_sumTangent.2.1 29 = .ok (.invokevirtual 86, 3) ∧ 29 + 3 = 32 := ⟨dcAll_e (i := 15) da_X4_sumTangent_0 rfl, rfl⟩
theorem g_X4_sumTangent_29 : en_C M_X4_sumTangent M_X1_shiftUp 86 1 := ⟨⟨inT2 211 rfl rfl, in_X1, cd_X1_shiftUp⟩, ⟨by decide, by decide, by decide +kernel⟩, by decide, by decide⟩
theorem q_X4_sumTangent_32 : decode M_X4_sumTangent.2.1 32 = .ok (.aload_n 0, 1) ∧ 32 + 1 = 33 := ⟨dcAll_e (i := 16) da_X4_sumTangent_0 rfl, rfl⟩
theorem q_X4_sumTangent_33 : decode M_X4_sumTangent.2.1 33 = .ok (.getfield 12, 3) ∧ 33 + 3 = 36 := ⟨dcAll_e (i := 17) da_X4_sumTangent_0 rfl, rfl⟩
theorem q_X4_sumTangent_36 : decode M_X4_sumTangent.2.1 36 = .ok (.lload_n 1, 1) ∧ 36 + 1 = 37 := ⟨dcAll_e (i := 18) da_X4_sumTangent_0 rfl, rfl⟩
theorem q_X4_sumTangent_37 : decode M_X4_sumTangent.2.1 37 = .ok (.invokevirtual 90, 3) ∧ 37 + 3 = 40 := ⟨dcAll_e (i := 19) da_X4_sumTangent_0 rfl, rfl⟩
theorem g_X4_sumTangent_37 : en_C M_X4_sumTangent M_X1_divideSmall 90 1 := ⟨⟨inT2 233 rfl rfl, in_X1, cd_X1_divideSmall⟩, ⟨by decide, by decide, by decide +kernel⟩, by decide, by decide⟩
theorem q_X4_sumTangent_40 : decode M_X4_sumTangent.2.1 40 = .ok (.pop2, 1) ∧ 40 + 1 = 41 := ⟨dcAll_e (i := 20) da_X4_sumTangent_0 rfl, rfl⟩
theorem q_X4_sumTangent_41 : decode M_X4_sumTangent.2.1 41 = .ok (.iconst 0, 1) ∧ 41 + 1 = 42 := ⟨dcAll_e (i := 21) da_X4_sumTangent_0 rfl, rfl⟩
theorem q_X4_sumTangent_42 : decode M_X4_sumTangent.2.1 42 = .ok (.istore 6, 2) ∧ 42 + 2 = 44 := ⟨dcAll_e (i := 22) da_X4_sumTangent_0 rfl, rfl⟩
theorem q_X4_sumTangent_44 : decode M_X4_sumTangent.2.1 44 = .ok (.iload 6, 2) ∧ 44 + 2 = 46 := ⟨dcAll_e (i := 23) da_X4_sumTangent_0 rfl, rfl⟩
theorem q_X4_sumTangent_46 : decode M_X4_sumTangent.2.1 46 = .ok (.sipush 10000, 3) ∧ 46 + 3 = 49 := ⟨dcAll_e (i := 24) da_X4_sumTangent_0 rfl, rfl⟩
theorem q_X4_sumTangent_49 : decode M_X4_sumTangent.2.1 49 = .ok (.if_icmp .ge 115, 3) ∧ 49 + 3 = 52 ∧ ((49 : Nat) : Int) + 115 = ((164 : Nat) : Int) := ⟨dcAll_e (i := 25) da_X4_sumTangent_0 rfl, rfl, rfl⟩
theorem q_X4_sumTangent_52 : decode M_X4_sumTangent.2.1 52 = .ok (.aload_n 0, 1) ∧ 52 + 1 = 53 := ⟨dcAll_e (i := 26) da_X4_sumTangent_0 rfl, rfl⟩
theorem q_X4_sumTangent_53 : decode M_X4_sumTangent.2.1 53 = .ok (.getfield 12, 3) ∧ 53 + 3 = 56 := ⟨dcAll_e (i := 27) da_X4_sumTangent_0 rfl, rfl⟩
theorem q_X4_sumTangent_56 : decode M_X4_sumTangent.2.1 56 = .ok (.getfield 94, 3) ∧ 56 + 3 = 59 := ⟨dcAll_e (i := 28) da_X4_sumTangent_0 rfl, rfl⟩
theorem f_RX4_94 : en_F RX4 94 1 0 := ⟨RX1, TX1, 3, rfl, by decide, rfl, inT1 42 rfl rfl, uw_X1⟩
theorem q_X4_sumTangent_59 : decode M_X4_sumTangent.2.1 59 = .ok (.ifCond .eq 105, 3) ∧ 59 + 3 = 62 ∧ ((59 : Nat) : Int) + 105 = ((164 : Nat) : Int) := ⟨dcAll_e (i := 29) da_X4_sumTangent_0 rfl, rfl, rfl⟩
theorem q_X4_sumTangent_62 : decode M_X4_sumTangent.2.1 62 = .ok (.aload_n 0, 1) ∧ 62 + 1 = 63 := ⟨dcAll_e (i := 30) da_X4_sumTangent_0 rfl, rfl⟩
theorem q_X4_sumTangent_63 : decode M_X4_sumTangent.2.1 63 = .ok (.getfield 18, 3) ∧ 63 + 3 = 66 := ⟨dcAll_e (i := 31) da_X4_sumTangent_0 rfl, rfl⟩
theorem f_RX4_18 : en_F RX4 18 4 1 := ⟨RX4, TX4, 5, rfl, by decide, rfl, inT1 83 rfl rfl, uw_X4⟩
theorem q_X4_sumTangent_66 : decode M_X4_sumTangent.2.1 66 = .ok (.aload_n 0, 1) ∧ 66 + 1 = 67 := ⟨dcAll_e (i := 32) da_X4_sumTangent_0 rfl, rfl⟩
theorem q_X4_sumTangent_67 : decode M_X4_sumTangent.2.1 67 = .ok (.getfield 12, 3) ∧ 67 + 3 = 70 := ⟨dcAll_e (i := 33) da_X4_sumTangent_0 rfl, rfl⟩
theorem q_X4_sumTangent_70 : decode M_X4_sumTangent.2.1 70 = .ok (.invokevirtual 70, 3) ∧ 70 + 3 = 73 := ⟨dcAll_e (i := 34) da_X4_sumTangent_0 rfl, rfl⟩
theorem g_X4_sumTangent_70 : en_C M_X4_sumTangent M_X1_copy 70 1 := ⟨⟨inT2 239 rfl rfl, in_X1, cd_X1_copy⟩, ⟨by decide, by decide, by decide +kernel⟩, by decide, by decide⟩
theorem q_X4_sumTangent_73 : decode M_X4_sumTangent.2.1 73 = .ok (.aload_n 0, 1) ∧ 73 + 1 = 74 := ⟨dcAll_e (i := 35) da_X4_sumTangent_0 rfl, rfl⟩
theorem q_X4_sumTangent_74 : decode M_X4_sumTangent.2.1 74 = .ok (.getfield 18, 3) ∧ 74 + 3 = 77 := ⟨dcAll_e (i := 36) da_X4_sumTangent_0 rfl, rfl⟩
theorem q_X4_sumTangent_77 : decode M_X4_sumTangent.2.1 77 = .ok (.ldc2_w 97, 3) ∧ 77 + 3 = 80 := ⟨dcAll_e (i := 37) da_X4_sumTangent_0 rfl, rfl⟩
theorem k_RX4_97 : Cond.constantLong RX4 97 (lN 2) ∈ en_tbl := by decide +kernel
theorem q_X4_sumTangent_80 : decode M_X4_sumTangent.2.1 80 = .ok (.iload 6, 2) ∧ 80 + 2 = 82 := ⟨dcAll_e (i := 38) da_X4_sumTangent_0 rfl, rfl⟩
theorem q_X4_sumTangent_82 : decode M_X4_sumTangent.2.1 82 = .ok (.i2l, 1) ∧ 82 + 1 = 83 := ⟨dcAll_e (i := 39) da_X4_sumTangent_0 rfl, rfl⟩
theorem q_X4_sumTangent_83 : decode M_X4_sumTangent.2.1 83 = .ok (.lmul, 1) ∧ 83 + 1 = 84 := ⟨dcAll_e (i := 0) da_X4_sumTangent_1 rfl, rfl⟩
theorem q_X4_sumTangent_84 : decode M_X4_sumTangent.2.1 84 = .ok (.lconst 1, 1) ∧ 84 + 1 = 85 := ⟨dcAll_e (i := 1) da_X4_sumTangent_1 rfl, rfl⟩
theorem q_X4_sumTangent_85 : decode M_X4_sumTangent.2.1 85 = .ok (.ladd, 1) ∧ 85 + 1 = 86 := ⟨dcAll_e (i := 2) da_X4_sumTangent_1 rfl, rfl⟩
theorem q_X4_sumTangent_86 : decode M_X4_sumTangent.2.1 86 = .ok (.invokevirtual 90, 3) ∧ 86 + 3 = 89 := ⟨dcAll_e (i := 3) da_X4_sumTangent_1 rfl, rfl⟩
theorem g_X4_sumTangent_86 : en_C M_X4_sumTangent M_X1_divideSmall 90 1 := ⟨⟨inT2 233 rfl rfl, in_X1, cd_X1_divideSmall⟩, ⟨by decide, by decide, by decide +kernel⟩, by decide, by decide⟩
theorem q_X4_sumTangent_89 : decode M_X4_sumTangent.2.1 89 = .ok (.pop2, 1) ∧ 89 + 1 = 90 := ⟨dcAll_e (i := 4) da_X4_sumTangent_1 rfl, rfl⟩
theorem q_X4_sumTangent_90 : decode M_X4_sumTangent.2.1 90 = .ok (.iload_n 3, 1) ∧ 90 + 1 = 91 := ⟨dcAll_e (i := 5) da_X4_sumTangent_1 rfl, rfl⟩
theorem q_X4_sumTangent_91 : decode M_X4_sumTangent.2.1 91 = .ok (.ifCond .eq 18, 3) ∧ 91 + 3 = 94 ∧ ((91 : Nat) : Int) + 18 = ((109 : Nat) : Int) := ⟨dcAll_e (i := 6) da_X4_sumTangent_1 rfl, rfl, rfl⟩
theorem q_X4_sumTangent_94 : decode M_X4_sumTangent.2.1 94 = .ok (.iload 6, 2) ∧ 94 + 2 = 96 := ⟨dcAll_e (i := 7) da_X4_sumTangent_1 rfl, rfl⟩
theorem q_X4_sumTangent_96 : decode M_X4_sumTangent.2.1 96 = .ok (.iconst 2, 1) ∧ 96 + 1 = 97 := ⟨dcAll_e (i := 8) da_X4_sumTangent_1 rfl, rfl⟩
theorem q_X4_sumTangent_97 : decode M_X4_sumTangent.2.1 97 = .ok (.irem, 1) ∧ 97 + 1 = 98 := ⟨dcAll_e (i := 9) da_X4_sumTangent_1 rfl, rfl⟩
theorem q_X4_sumTangent_98 : decode M_X4_sumTangent.2.1 98 = .ok (.iconst 1, 1) ∧ 98 + 1 = 99 := ⟨dcAll_e (i := 10) da_X4_sumTangent_1 rfl, rfl⟩
theorem q_X4_sumTangent_99 : decode M_X4_sumTangent.2.1 99 = .ok (.if_icmp .ne 10, 3) ∧ 99 + 3 = 102 ∧ ((99 : Nat) : Int) + 10 = ((109 : Nat) : Int) := ⟨dcAll_e (i := 11) da_X4_sumTangent_1 rfl, rfl, rfl⟩
theorem q_X4_sumTangent_102 : decode M_X4_sumTangent.2.1 102 = .ok (.aload_n 0, 1) ∧ 102 + 1 = 103 := ⟨dcAll_e (i := 12) da_X4_sumTangent_1 rfl, rfl⟩
theorem q_X4_sumTangent_103 : decode M_X4_sumTangent.2.1 103 = .ok (.getfield 24, 3) ∧ 103 + 3 = 106 := ⟨dcAll_e (i := 13) da_X4_sumTangent_1 rfl, rfl⟩
theorem q_X4_sumTangent_106 : decode M_X4_sumTangent.2.1 106 = .ok (.goto 7, 3) ∧ 106 + 3 = 109 ∧ ((106 : Nat) : Int) + 7 = ((113 : Nat) : Int) := ⟨dcAll_e (i := 14) da_X4_sumTangent_1 rfl, rfl, rfl⟩
theorem q_X4_sumTangent_109 : decode M_X4_sumTangent.2.1 109 = .ok (.aload_n 0, 1) ∧ 109 + 1 = 110 := ⟨dcAll_e (i := 15) da_X4_sumTangent_1 rfl, rfl⟩
theorem q_X4_sumTangent_110 : decode M_X4_sumTangent.2.1 110 = .ok (.getfield 21, 3) ∧ 110 + 3 = 113 := ⟨dcAll_e (i := 16) da_X4_sumTangent_1 rfl, rfl⟩
theorem q_X4_sumTangent_113 : decode M_X4_sumTangent.2.1 113 = .ok (.astore 7, 2) ∧ 113 + 2 = 115 := ⟨dcAll_e (i := 17) da_X4_sumTangent_1 rfl, rfl⟩
theorem q_X4_sumTangent_115 : decode M_X4_sumTangent.2.1 115 = .ok (.aload 7, 2) ∧ 115 + 2 = 117 := ⟨dcAll_e (i := 18) da_X4_sumTangent_1 rfl, rfl⟩
theorem q_X4_sumTangent_117 : decode M_X4_sumTangent.2.1 117 = .ok (.aload_n 0, 1) ∧ 117 + 1 = 118 := ⟨dcAll_e (i := 19) da_X4_sumTangent_1 rfl, rfl⟩
theorem q_X4_sumTangent_118 : decode M_X4_sumTangent.2.1 118 = .ok (.getfield 18, 3) ∧ 118 + 3 = 121 := ⟨dcAll_e (i := 20) da_X4_sumTangent_1 rfl, rfl⟩
theorem q_X4_sumTangent_121 : decode M_X4_sumTangent.2.1 121 = .ok (.invokevirtual 77, 3) ∧ 121 + 3 = 124 := ⟨dcAll_e (i := 21) da_X4_sumTangent_1 rfl, rfl⟩
theorem g_X4_sumTangent_121 : en_C M_X4_sumTangent M_X1_add 77 1 := ⟨⟨inT2 212 rfl rfl, in_X1, cd_X1_add⟩, ⟨by decide, by decide, by decide +kernel⟩, by decide, by decide⟩
theorem q_X4_sumTangent_124 : decode M_X4_sumTangent.2.1 124 = .ok (.aload_n 0, 1) ∧ 124 + 1 = 125 := ⟨dcAll_e (i := 22) da_X4_sumTangent_1 rfl, rfl⟩
theorem q_X4_sumTangent_125 : decode M_X4_sumTangent.2.1 125 = .ok (.getfield 12, 3) ∧ 125 + 3 = 128 := ⟨dcAll_e (i := 23) da_X4_sumTangent_1 rfl, rfl⟩
theorem q_X4_sumTangent_128 : decode M_X4_sumTangent.2.1 128 = .ok (.iload 5, 2) ∧ 128 + 2 = 130 := ⟨dcAll_e (i := 24) da_X4_sumTangent_1 rfl, rfl⟩
theorem q_X4_sumTangent_130 : decode M_X4_sumTangent.2.1 130 = .ok (.ifCond .eq 9, 3) ∧ 130 + 3 = 133 ∧ ((130 : Nat) : Int) + 9 = ((139 : Nat) : Int) := ⟨dcAll_e (i := 25) da_X4_sumTangent_1 rfl, rfl, rfl⟩
theorem q_X4_sumTangent_133 : decode M_X4_sumTangent.2.1 133 = .ok (.lload_n 1, 1) ∧ 133 + 1 = 134 := ⟨dcAll_e (i := 26) da_X4_sumTangent_1 rfl, rfl⟩
theorem q_X4_sumTangent_134 : decode M_X4_sumTangent.2.1 134 = .ok (.lload_n 1, 1) ∧ 134 + 1 = 135 := ⟨dcAll_e (i := 27) da_X4_sumTangent_1 rfl, rfl⟩
theorem q_X4_sumTangent_135 : decode M_X4_sumTangent.2.1 135 = .ok (.lmul, 1) ∧ 135 + 1 = 136 := ⟨dcAll_e (i := 28) da_X4_sumTangent_1 rfl, rfl⟩
theorem q_X4_sumTangent_136 : decode M_X4_sumTangent.2.1 136 = .ok (.goto 4, 3) ∧ 136 + 3 = 139 ∧ ((136 : Nat) : Int) + 4 = ((140 : Nat) : Int) := ⟨dcAll_e (i := 29) da_X4_sumTangent_1 rfl, rfl, rfl⟩
theorem q_X4_sumTangent_139 : decode M_X4_sumTangent.2.1 139 = .ok (.lload_n 1, 1) ∧ 139 + 1 = 140 := ⟨dcAll_e (i := 30) da_X4_sumTangent_1 rfl, rfl⟩
theorem q_X4_sumTangent_140 : decode M_X4_sumTangent.2.1 140 = .ok (.invokevirtual 90, 3) ∧ 140 + 3 = 143 := ⟨dcAll_e (i := 31) da_X4_sumTangent_1 rfl, rfl⟩
theorem g_X4_sumTangent_140 : en_C M_X4_sumTangent M_X1_divideSmall 90 1 := ⟨⟨inT2 233 rfl rfl, in_X1, cd_X1_divideSmall⟩, ⟨by decide, by decide, by decide +kernel⟩, by decide, by decide⟩
theorem q_X4_sumTangent_143 : decode M_X4_sumTangent.2.1 143 = .ok (.pop2, 1) ∧ 143 + 1 = 144 := ⟨dcAll_e (i := 32) da_X4_sumTangent_1 rfl, rfl⟩
theorem q_X4_sumTangent_144 : decode M_X4_sumTangent.2.1 144 = .ok (.iload 5, 2) ∧ 144 + 2 = 146 := ⟨dcAll_e (i := 33) da_X4_sumTangent_1 rfl, rfl⟩
theorem q_X4_sumTangent_146 : decode M_X4_sumTangent.2.1 146 = .ok (.ifCond .ne 12, 3) ∧ 146 + 3 = 149 ∧ ((146 : Nat) : Int) + 12 = ((158 : Nat) : Int) := ⟨dcAll_e (i := 34) da_X4_sumTangent_1 rfl, rfl, rfl⟩
theorem q_X4_sumTangent_149 : decode M_X4_sumTangent.2.1 149 = .ok (.aload_n 0, 1) ∧ 149 + 1 = 150 := ⟨dcAll_e (i := 35) da_X4_sumTangent_1 rfl, rfl⟩
theorem q_X4_sumTangent_150 : decode M_X4_sumTangent.2.1 150 = .ok (.getfield 12, 3) ∧ 150 + 3 = 153 := ⟨dcAll_e (i := 36) da_X4_sumTangent_1 rfl, rfl⟩
theorem q_X4_sumTangent_153 : decode M_X4_sumTangent.2.1 153 = .ok (.lload_n 1, 1) ∧ 153 + 1 = 154 := ⟨dcAll_e (i := 37) da_X4_sumTangent_1 rfl, rfl⟩
theorem q_X4_sumTangent_154 : decode M_X4_sumTangent.2.1 154 = .ok (.invokevirtual 90, 3) ∧ 154 + 3 = 157 := ⟨dcAll_e (i := 38) da_X4_sumTangent_1 rfl, rfl⟩
theorem g_X4_sumTangent_154 : en_C M_X4_sumTangent M_X1_divideSmall 90 1 := ⟨⟨inT2 233 rfl rfl, in_X1, cd_X1_divideSmall⟩, ⟨by decide, by decide, by decide +kernel⟩, by decide, by decide⟩
theorem q_X4_sumTangent_157 : decode M_X4_sumTangent.2.1 157 = .ok (.pop2, 1) ∧ 157 + 1 = 158 := ⟨dcAll_e (i := 39) da_X4_sumTangent_1 rfl, rfl⟩
theorem q_X4_sumTangent_158 : decode M_X4_sumTangent.2.1 158 = .ok (.iinc 6 1, 3) ∧ 158 + 3 = 161 := ⟨dcAll_e (i := 0) da_X4_sumTangent_2 rfl, rfl⟩
theorem q_X4_sumTangent_161 : decode M_X4_sumTangent.2.1 161 = .ok (.goto (-117), 3) ∧ 161 + 3 = 164 ∧ ((161 : Nat) : Int) + (-117) = ((44 : Nat) : Int) := ⟨dcAll_e (i := 1) da_X4_sumTangent_2 rfl, rfl, rfl⟩
theorem q_X4_sumTangent_164 : decode M_X4_sumTangent.2.1 164 = .ok (.return_, 1) ∧ 164 + 1 = 165 := ⟨dcAll_e (i := 2) da_X4_sumTangent_2 rfl, rfl⟩
def dl_X4_sumPower_0 : List (Nat × Instr × Nat) := [(0, .aload_n 0, 1), (1, .getfield 12, 3), (4, .lconst 1, 1), (5, .invokevirtual 32, 3), (8, .aload_n 0, 1), (9, .getfield 12, 3), (12, .iload 5, 2), (14, .invokevirtual 86, 3), (17, .iconst 0, 1), (18, .istore 6, 2), (20, .iload 6, 2), (22, .sipush 10000, 3), (25, .if_icmp .ge 81, 3), (28, .aload_n 0, 1), (29, .getfield 12, 3), (32, .getfield 94, 3), (35, .ifCond .eq 71, 3), (38, .lload_n 1, 1), (39, .lconst 0, 1), (40, .lcmp, 1), (41, .ifCond .ge 18, 3), (44, .iload 6, 2), (46, .iconst 2, 1), (47, .irem, 1), (48, .iconst 1, 1), (49, .if_icmp .ne 10, 3), (52, .aload_n 0, 1), (53, .getfield 24, 3), (56, .goto 7, 3), (59, .aload_n 0, 1), (60, .getfield 21, 3), (63, .astore 7, 2), (65, .aload 7, 2), (67, .aload_n 0, 1), (68, .getfield 12, 3), (71, .invokevirtual 77, 3), (74, .aload_n 0, 1), (75, .getfield 12, 3), (78, .lload_n 1, 1), (79, .invokestatic 99, 3)]
theorem da_X4_sumPower_0 : dcAll M_X4_sumPower.2.1 dl_X4_sumPower_0 = true := by decide +kernel
def dl_X4_sumPower_1 : List (Nat × Instr × Nat) := [(82, .invokevirtual 104, 3), (85, .aload_n 0, 1), (86, .getfield 12, 3), (89, .lload_n 3, 1), (90, .iload 6, 2), (92, .iconst 1, 1), (93, .iadd, 1), (94, .i2l, 1), (95, .lmul, 1), (96, .invokevirtual 90, 3), (99, .pop2, 1), (100, .iinc 6 1, 3), (103, .goto (-83), 3), (106, .return_, 1)]
theorem da_X4_sumPower_1 : dcAll M_X4_sumPower.2.1 dl_X4_sumPower_1 = true := by decide +kernel
theorem q_X4_sumPower_0 : decode M_X4_sumPower.2.1 0 = .ok (.aload_n 0, 1) ∧ 0 + 1 = 1 := ⟨dcAll_e (i := 0) da_X4_sumPower_0 rfl, rfl⟩
theorem q_X4_sumPower_1 : decode M_X4_sumPower.2.1 1 = .ok (.getfield 12, 3) ∧ 1 + 3 = 4 := ⟨dcAll_e (i := 1) da_X4_sumPower_0 rfl, rfl⟩
theorem q_X4_sumPower_4 : decode M_X4_sumPower.2.1 4 = .ok (.lconst 1, 1) ∧ 4 + 1 = 5 := ⟨dcAll_e (i := 2) da_X4_sumPower_0 rfl, rfl⟩
theorem q_X4_sumPower_5 : decode M_X4_sumPower.2.1 5 = .ok (.invokevirtual 32, 3) ∧ 5 + 3 = 8 := ⟨dcAll_e (i := 3) da_X4_sumPower_0 rfl, rfl⟩
theorem g_X4_sumPower_5 : en_C M_X4_sumPower M_X1_setLong 32 1 := ⟨⟨inT2 205 rfl rfl, in_X1, cd_X1_setLong⟩, ⟨by decide, by decide, by decide +kernel⟩, by decide, by decide⟩
theorem q_X4_sumPower_8 : decode M_X4_sumPower.2.1 8 = .ok (.aload_n 0, 1) ∧ 8 + 1 = 9 := ⟨dcAll_e (i := 4) da_X4_sumPower_0 rfl, rfl⟩
theorem q_X4_sumPower_9 : decode M_X4_sumPower.2.1 9 = .ok (.getfield 12, 3) ∧ 9 + 3 = 12 := ⟨dcAll_e (i := 5) da_X4_sumPower_0 rfl, rfl⟩
theorem q_X4_sumPower_12 : decode M_X4_sumPower.2.1 12 = .ok (.iload 5, 2) ∧ 12 + 2 = 14 := ⟨dcAll_e (i := 6) da_X4_sumPower_0 rfl, rfl⟩
theorem q_X4_sumPower_14 : decode M_X4_sumPower.2.1 14 = .ok (.invokevirtual 86, 3) ∧ 14 + 3 = 17 := ⟨dcAll_e (i := 7) da_X4_sumPower_0 rfl, rfl⟩
theorem g_X4_sumPower_14 : en_C M_X4_sumPower M_X1_shiftUp 86 1 := ⟨⟨inT2 211 rfl rfl, in_X1, cd_X1_shiftUp⟩, ⟨by decide, by decide, by decide +kernel⟩, by decide, by decide⟩
theorem q_X4_sumPower_17 : decode M_X4_sumPower.2.1 17 = .ok (.iconst 0, 1) ∧ 17 + 1 = 18 := ⟨dcAll_e (i := 8) da_X4_sumPower_0 rfl, rfl⟩
theorem q_X4_sumPower_18 : decode M_X4_sumPower.2.1 18 = .ok (.istore 6, 2) ∧ 18 + 2 = 20 := ⟨dcAll_e (i := 9) da_X4_sumPower_0 rfl, rfl⟩
theorem q_X4_sumPower_20 : decode M_X4_sumPower.2.1 20 = .ok (.iload 6, 2) ∧ 20 + 2 = 22 := ⟨dcAll_e (i := 10) da_X4_sumPower_0 rfl, rfl⟩
theorem q_X4_sumPower_22 : decode M_X4_sumPower.2.1 22 = .ok (.sipush 10000, 3) ∧ 22 + 3 = 25 := ⟨dcAll_e (i := 11) da_X4_sumPower_0 rfl, rfl⟩
theorem q_X4_sumPower_25 : decode M_X4_sumPower.2.1 25 = .ok (.if_icmp .ge 81, 3) ∧ 25 + 3 = 28 ∧ ((25 : Nat) : Int) + 81 = ((106 : Nat) : Int) := ⟨dcAll_e (i := 12) da_X4_sumPower_0 rfl, rfl, rfl⟩
theorem q_X4_sumPower_28 : decode M_X4_sumPower.2.1 28 = .ok (.aload_n 0, 1) ∧ 28 + 1 = 29 := ⟨dcAll_e (i := 13) da_X4_sumPower_0 rfl, rfl⟩
theorem q_X4_sumPower_29 : decode M_X4_sumPower.2.1 29 = .ok (.getfield 12, 3) ∧ 29 + 3 = 32 := ⟨dcAll_e (i := 14) da_X4_sumPower_0 rfl, rfl⟩
theorem q_X4_sumPower_32 : decode M_X4_sumPower.2.1 32 = .ok (.getfield 94, 3) ∧ 32 + 3 = 35 := ⟨dcAll_e (i := 15) da_X4_sumPower_0 rfl, rfl⟩
theorem q_X4_sumPower_35 : decode M_X4_sumPower.2.1 35 = .ok (.ifCond .eq 71, 3) ∧ 35 + 3 = 38 ∧ ((35 : Nat) : Int) + 71 = ((106 : Nat) : Int) := ⟨dcAll_e (i := 16) da_X4_sumPower_0 rfl, rfl, rfl⟩
theorem q_X4_sumPower_38 : decode M_X4_sumPower.2.1 38 = .ok (.lload_n 1, 1) ∧ 38 + 1 = 39 := ⟨dcAll_e (i := 17) da_X4_sumPower_0 rfl, rfl⟩
theorem q_X4_sumPower_39 : decode M_X4_sumPower.2.1 39 = .ok (.lconst 0, 1) ∧ 39 + 1 = 40 := ⟨dcAll_e (i := 18) da_X4_sumPower_0 rfl, rfl⟩
theorem q_X4_sumPower_40 : decode M_X4_sumPower.2.1 40 = .ok (.lcmp, 1) ∧ 40 + 1 = 41 := ⟨dcAll_e (i := 19) da_X4_sumPower_0 rfl, rfl⟩
theorem q_X4_sumPower_41 : decode M_X4_sumPower.2.1 41 = .ok (.ifCond .ge 18, 3) ∧ 41 + 3 = 44 ∧ ((41 : Nat) : Int) + 18 = ((59 : Nat) : Int) := ⟨dcAll_e (i := 20) da_X4_sumPower_0 rfl, rfl, rfl⟩
theorem q_X4_sumPower_44 : decode M_X4_sumPower.2.1 44 = .ok (.iload 6, 2) ∧ 44 + 2 = 46 := ⟨dcAll_e (i := 21) da_X4_sumPower_0 rfl, rfl⟩
theorem q_X4_sumPower_46 : decode M_X4_sumPower.2.1 46 = .ok (.iconst 2, 1) ∧ 46 + 1 = 47 := ⟨dcAll_e (i := 22) da_X4_sumPower_0 rfl, rfl⟩
theorem q_X4_sumPower_47 : decode M_X4_sumPower.2.1 47 = .ok (.irem, 1) ∧ 47 + 1 = 48 := ⟨dcAll_e (i := 23) da_X4_sumPower_0 rfl, rfl⟩
theorem q_X4_sumPower_48 : decode M_X4_sumPower.2.1 48 = .ok (.iconst 1, 1) ∧ 48 + 1 = 49 := ⟨dcAll_e (i := 24) da_X4_sumPower_0 rfl, rfl⟩
theorem q_X4_sumPower_49 : decode M_X4_sumPower.2.1 49 = .ok (.if_icmp .ne 10, 3) ∧ 49 + 3 = 52 ∧ ((49 : Nat) : Int) + 10 = ((59 : Nat) : Int) := ⟨dcAll_e (i := 25) da_X4_sumPower_0 rfl, rfl, rfl⟩
theorem q_X4_sumPower_52 : decode M_X4_sumPower.2.1 52 = .ok (.aload_n 0, 1) ∧ 52 + 1 = 53 := ⟨dcAll_e (i := 26) da_X4_sumPower_0 rfl, rfl⟩
theorem q_X4_sumPower_53 : decode M_X4_sumPower.2.1 53 = .ok (.getfield 24, 3) ∧ 53 + 3 = 56 := ⟨dcAll_e (i := 27) da_X4_sumPower_0 rfl, rfl⟩
theorem q_X4_sumPower_56 : decode M_X4_sumPower.2.1 56 = .ok (.goto 7, 3) ∧ 56 + 3 = 59 ∧ ((56 : Nat) : Int) + 7 = ((63 : Nat) : Int) := ⟨dcAll_e (i := 28) da_X4_sumPower_0 rfl, rfl, rfl⟩
theorem q_X4_sumPower_59 : decode M_X4_sumPower.2.1 59 = .ok (.aload_n 0, 1) ∧ 59 + 1 = 60 := ⟨dcAll_e (i := 29) da_X4_sumPower_0 rfl, rfl⟩
theorem q_X4_sumPower_60 : decode M_X4_sumPower.2.1 60 = .ok (.getfield 21, 3) ∧ 60 + 3 = 63 := ⟨dcAll_e (i := 30) da_X4_sumPower_0 rfl, rfl⟩
theorem q_X4_sumPower_63 : decode M_X4_sumPower.2.1 63 = .ok (.astore 7, 2) ∧ 63 + 2 = 65 := ⟨dcAll_e (i := 31) da_X4_sumPower_0 rfl, rfl⟩
theorem q_X4_sumPower_65 : decode M_X4_sumPower.2.1 65 = .ok (.aload 7, 2) ∧ 65 + 2 = 67 := ⟨dcAll_e (i := 32) da_X4_sumPower_0 rfl, rfl⟩
theorem q_X4_sumPower_67 : decode M_X4_sumPower.2.1 67 = .ok (.aload_n 0, 1) ∧ 67 + 1 = 68 := ⟨dcAll_e (i := 33) da_X4_sumPower_0 rfl, rfl⟩
theorem q_X4_sumPower_68 : decode M_X4_sumPower.2.1 68 = .ok (.getfield 12, 3) ∧ 68 + 3 = 71 := ⟨dcAll_e (i := 34) da_X4_sumPower_0 rfl, rfl⟩
theorem q_X4_sumPower_71 : decode M_X4_sumPower.2.1 71 = .ok (.invokevirtual 77, 3) ∧ 71 + 3 = 74 := ⟨dcAll_e (i := 35) da_X4_sumPower_0 rfl, rfl⟩
theorem g_X4_sumPower_71 : en_C M_X4_sumPower M_X1_add 77 1 := ⟨⟨inT2 212 rfl rfl, in_X1, cd_X1_add⟩, ⟨by decide, by decide, by decide +kernel⟩, by decide, by decide⟩
theorem q_X4_sumPower_74 : decode M_X4_sumPower.2.1 74 = .ok (.aload_n 0, 1) ∧ 74 + 1 = 75 := ⟨dcAll_e (i := 36) da_X4_sumPower_0 rfl, rfl⟩
theorem q_X4_sumPower_75 : decode M_X4_sumPower.2.1 75 = .ok (.getfield 12, 3) ∧ 75 + 3 = 78 := ⟨dcAll_e (i := 37) da_X4_sumPower_0 rfl, rfl⟩
theorem q_X4_sumPower_78 : decode M_X4_sumPower.2.1 78 = .ok (.lload_n 1, 1) ∧ 78 + 1 = 79 := ⟨dcAll_e (i := 38) da_X4_sumPower_0 rfl, rfl⟩
theorem q_X4_sumPower_79 : decode M_X4_sumPower.2.1 79 = .ok (.invokestatic 99, 3) ∧ 79 + 3 = 82 := ⟨dcAll_e (i := 39) da_X4_sumPower_0 rfl, rfl⟩
theorem a_RX4_99 : Cond.methodLink RX4 99 Lib.MathLoose.abs_long.x ∈ en_tbl := by decide +kernel
theorem q_X4_sumPower_82 : decode M_X4_sumPower.2.1 82 = .ok (.invokevirtual 104, 3) ∧ 82 + 3 = 85 := ⟨dcAll_e (i := 0) da_X4_sumPower_1 rfl, rfl⟩
theorem g_X4_sumPower_82 : en_C M_X4_sumPower M_X1_multiplySmall 104 1 := ⟨⟨inT2 232 rfl rfl, in_X1, cd_X1_multiplySmall⟩, ⟨by decide, by decide, by decide +kernel⟩, by decide, by decide⟩
theorem q_X4_sumPower_85 : decode M_X4_sumPower.2.1 85 = .ok (.aload_n 0, 1) ∧ 85 + 1 = 86 := ⟨dcAll_e (i := 1) da_X4_sumPower_1 rfl, rfl⟩
theorem q_X4_sumPower_86 : decode M_X4_sumPower.2.1 86 = .ok (.getfield 12, 3) ∧ 86 + 3 = 89 := ⟨dcAll_e (i := 2) da_X4_sumPower_1 rfl, rfl⟩
theorem q_X4_sumPower_89 : decode M_X4_sumPower.2.1 89 = .ok (.lload_n 3, 1) ∧ 89 + 1 = 90 := ⟨dcAll_e (i := 3) da_X4_sumPower_1 rfl, rfl⟩
theorem q_X4_sumPower_90 : decode M_X4_sumPower.2.1 90 = .ok (.iload 6, 2) ∧ 90 + 2 = 92 := ⟨dcAll_e (i := 4) da_X4_sumPower_1 rfl, rfl⟩
theorem q_X4_sumPower_92 : decode M_X4_sumPower.2.1 92 = .ok (.iconst 1, 1) ∧ 92 + 1 = 93 := ⟨dcAll_e (i := 5) da_X4_sumPower_1 rfl, rfl⟩
theorem q_X4_sumPower_93 : decode M_X4_sumPower.2.1 93 = .ok (.iadd, 1) ∧ 93 + 1 = 94 := ⟨dcAll_e (i := 6) da_X4_sumPower_1 rfl, rfl⟩
theorem q_X4_sumPower_94 : decode M_X4_sumPower.2.1 94 = .ok (.i2l, 1) ∧ 94 + 1 = 95 := ⟨dcAll_e (i := 7) da_X4_sumPower_1 rfl, rfl⟩
theorem q_X4_sumPower_95 : decode M_X4_sumPower.2.1 95 = .ok (.lmul, 1) ∧ 95 + 1 = 96 := ⟨dcAll_e (i := 8) da_X4_sumPower_1 rfl, rfl⟩
theorem q_X4_sumPower_96 : decode M_X4_sumPower.2.1 96 = .ok (.invokevirtual 90, 3) ∧ 96 + 3 = 99 := ⟨dcAll_e (i := 9) da_X4_sumPower_1 rfl, rfl⟩
theorem g_X4_sumPower_96 : en_C M_X4_sumPower M_X1_divideSmall 90 1 := ⟨⟨inT2 233 rfl rfl, in_X1, cd_X1_divideSmall⟩, ⟨by decide, by decide, by decide +kernel⟩, by decide, by decide⟩
theorem q_X4_sumPower_99 : decode M_X4_sumPower.2.1 99 = .ok (.pop2, 1) ∧ 99 + 1 = 100 := ⟨dcAll_e (i := 10) da_X4_sumPower_1 rfl, rfl⟩
theorem q_X4_sumPower_100 : decode M_X4_sumPower.2.1 100 = .ok (.iinc 6 1, 3) ∧ 100 + 3 = 103 := ⟨dcAll_e (i := 11) da_X4_sumPower_1 rfl, rfl⟩
theorem q_X4_sumPower_103 : decode M_X4_sumPower.2.1 103 = .ok (.goto (-83), 3) ∧ 103 + 3 = 106 ∧ ((103 : Nat) : Int) + (-83) = ((20 : Nat) : Int) := ⟨dcAll_e (i := 12) da_X4_sumPower_1 rfl, rfl, rfl⟩
theorem q_X4_sumPower_106 : decode M_X4_sumPower.2.1 106 = .ok (.return_, 1) ∧ 106 + 1 = 107 := ⟨dcAll_e (i := 13) da_X4_sumPower_1 rfl, rfl⟩
def dl_X5_init_0 : List (Nat × Instr × Nat) := [(0, .aload_n 0, 1), (1, .invokespecial 1, 3), (4, .aload_n 0, 1), (5, .new 7, 3), (8, .dup, 1), (9, .invokespecial 9, 3), (12, .putfield 10, 3), (15, .aload_n 0, 1), (16, .new 7, 3), (19, .dup, 1), (20, .invokespecial 9, 3), (23, .putfield 16, 3), (26, .aload_n 0, 1), (27, .new 7, 3), (30, .dup, 1), (31, .invokespecial 9, 3), (34, .putfield 19, 3), (37, .return_, 1)]
theorem da_X5_init_0 : dcAll M_X5_init.2.1 dl_X5_init_0 = true := by decide +kernel
theorem q_X5_init_0 : decode M_X5_init.2.1 0 = .ok (.aload_n 0, 1) ∧ 0 + 1 = 1 := ⟨dcAll_e (i := 0) da_X5_init_0 rfl, rfl⟩
theorem q_X5_init_1 : decode M_X5_init.2.1 1 = .ok (.invokespecial 1, 3) ∧ 1 + 3 = 4 := ⟨dcAll_e (i := 1) da_X5_init_0 rfl, rfl⟩
theorem o_RX5_1 : Cond.methodLink RX5 1 Lib.objectInit ∈ en_tbl := by decide +kernel
theorem q_X5_init_4 : decode M_X5_init.2.1 4 = .ok (.aload_n 0, 1) ∧ 4 + 1 = 5 := ⟨dcAll_e (i := 2) da_X5_init_0 rfl, rfl⟩
theorem q_X5_init_5 : decode M_X5_init.2.1 5 = .ok (.new 7, 3) ∧ 5 + 3 = 8 := ⟨dcAll_e (i := 3) da_X5_init_0 rfl, rfl⟩
theorem n_RX5_7 : en_N RX5 7 1 3 [.int 0, .int 0, .null] := ⟨RX1, TX1, tyX1, rfl, by decide +kernel, by decide +kernel, in_X1, uw_X1, tyX1_ok, fun j hj => by match j, hj with | 0, _ => rfl | 1, _ => rfl | 2, _ => rfl | j + 3, h => omega⟩
theorem q_X5_init_8 : decode M_X5_init.2.1 8 = .ok (.dup, 1) ∧ 8 + 1 = 9 := ⟨dcAll_e (i := 4) da_X5_init_0 rfl, rfl⟩
theorem q_X5_init_9 : decode M_X5_init.2.1 9 = .ok (.invokespecial 9, 3) ∧ 9 + 3 = 12 := ⟨dcAll_e (i := 5) da_X5_init_0 rfl, rfl⟩
theorem g_X5_init_9 : en_CN M_X5_init M_X1_init 9 0 "EnclosedDigits" := ⟨⟨by decide +kernel, in_X1, cd_X1_init⟩, ⟨by decide, by decide, by decide +kernel⟩, by decide, by decide⟩
theorem q_X5_init_12 : decode M_X5_init.2.1 12 = .ok (.putfield 10, 3) ∧ 12 + 3 = 15 := ⟨dcAll_e (i := 6) da_X5_init_0 rfl, rfl⟩
theorem p_RX5_10 : en_Fp RX5 10 5 7 true (.object "EnclosedDigits$Big") := ⟨RX5, TX5, 11, tyX5, rfl, by decide, rfl, inT1 226 rfl rfl, uw_X5, tyX5_ok, nmX5, rfl, by decide +kernel⟩
theorem q_X5_init_15 : decode M_X5_init.2.1 15 = .ok (.aload_n 0, 1) ∧ 15 + 1 = 16 := ⟨dcAll_e (i := 7) da_X5_init_0 rfl, rfl⟩
theorem q_X5_init_16 : decode M_X5_init.2.1 16 = .ok (.new 7, 3) ∧ 16 + 3 = 19 := ⟨dcAll_e (i := 8) da_X5_init_0 rfl, rfl⟩
theorem q_X5_init_19 : decode M_X5_init.2.1 19 = .ok (.dup, 1) ∧ 19 + 1 = 20 := ⟨dcAll_e (i := 9) da_X5_init_0 rfl, rfl⟩
theorem q_X5_init_20 : decode M_X5_init.2.1 20 = .ok (.invokespecial 9, 3) ∧ 20 + 3 = 23 := ⟨dcAll_e (i := 10) da_X5_init_0 rfl, rfl⟩
theorem g_X5_init_20 : en_CN M_X5_init M_X1_init 9 0 "EnclosedDigits" := ⟨⟨by decide +kernel, in_X1, cd_X1_init⟩, ⟨by decide, by decide, by decide +kernel⟩, by decide, by decide⟩
theorem q_X5_init_23 : decode M_X5_init.2.1 23 = .ok (.putfield 16, 3) ∧ 23 + 3 = 26 := ⟨dcAll_e (i := 11) da_X5_init_0 rfl, rfl⟩
theorem p_RX5_16 : en_Fp RX5 16 5 8 true (.object "EnclosedDigits$Big") := ⟨RX5, TX5, 11, tyX5, rfl, by decide, rfl, inT1 229 rfl rfl, uw_X5, tyX5_ok, nmX5, rfl, by decide +kernel⟩
theorem q_X5_init_26 : decode M_X5_init.2.1 26 = .ok (.aload_n 0, 1) ∧ 26 + 1 = 27 := ⟨dcAll_e (i := 12) da_X5_init_0 rfl, rfl⟩
theorem q_X5_init_27 : decode M_X5_init.2.1 27 = .ok (.new 7, 3) ∧ 27 + 3 = 30 := ⟨dcAll_e (i := 13) da_X5_init_0 rfl, rfl⟩
theorem q_X5_init_30 : decode M_X5_init.2.1 30 = .ok (.dup, 1) ∧ 30 + 1 = 31 := ⟨dcAll_e (i := 14) da_X5_init_0 rfl, rfl⟩
theorem q_X5_init_31 : decode M_X5_init.2.1 31 = .ok (.invokespecial 9, 3) ∧ 31 + 3 = 34 := ⟨dcAll_e (i := 15) da_X5_init_0 rfl, rfl⟩
theorem g_X5_init_31 : en_CN M_X5_init M_X1_init 9 0 "EnclosedDigits" := ⟨⟨by decide +kernel, in_X1, cd_X1_init⟩, ⟨by decide, by decide, by decide +kernel⟩, by decide, by decide⟩
theorem q_X5_init_34 : decode M_X5_init.2.1 34 = .ok (.putfield 19, 3) ∧ 34 + 3 = 37 := ⟨dcAll_e (i := 16) da_X5_init_0 rfl, rfl⟩
theorem p_RX5_19 : en_Fp RX5 19 5 10 true (.object "EnclosedDigits$Big") := ⟨RX5, TX5, 11, tyX5, rfl, by decide, rfl, inT1 235 rfl rfl, uw_X5, tyX5_ok, nmX5, rfl, by decide +kernel⟩
theorem q_X5_init_37 : decode M_X5_init.2.1 37 = .ok (.return_, 1) ∧ 37 + 1 = 38 := ⟨dcAll_e (i := 17) da_X5_init_0 rfl, rfl⟩
def dl_X5_become_0 : List (Nat × Instr × Nat) := [(0, .aload_n 0, 1), (1, .iload_n 1, 1), (2, .putfield 22, 3), (5, .aload_n 0, 1), (6, .lload_n 2, 1), (7, .putfield 26, 3), (10, .aload_n 0, 1), (11, .lload 4, 2), (13, .putfield 30, 3), (16, .aload_n 0, 1), (17, .iconst 0, 1), (18, .putfield 33, 3), (21, .aload_n 0, 1), (22, .iconst 0, 1), (23, .putfield 36, 3), (26, .return_, 1)]
theorem da_X5_become_0 : dcAll M_X5_become.2.1 dl_X5_become_0 = true := by decide +kernel
theorem q_X5_become_0 : decode M_X5_become.2.1 0 = .ok (.aload_n 0, 1) ∧ 0 + 1 = 1 := ⟨dcAll_e (i := 0) da_X5_become_0 rfl, rfl⟩
theorem q_X5_become_1 : decode M_X5_become.2.1 1 = .ok (.iload_n 1, 1) ∧ 1 + 1 = 2 := ⟨dcAll_e (i := 1) da_X5_become_0 rfl, rfl⟩
theorem q_X5_become_2 : decode M_X5_become.2.1 2 = .ok (.putfield 22, 3) ∧ 2 + 3 = 5 := ⟨dcAll_e (i := 2) da_X5_become_0 rfl, rfl⟩
theorem p_RX5_22 : en_Fp RX5 22 5 0 false .int := ⟨RX5, TX5, 11, tyX5, rfl, by decide, rfl, inT1 209 rfl rfl, uw_X5, tyX5_ok, nmX5, rfl, by decide +kernel⟩
theorem q_X5_become_5 : decode M_X5_become.2.1 5 = .ok (.aload_n 0, 1) ∧ 5 + 1 = 6 := ⟨dcAll_e (i := 3) da_X5_become_0 rfl, rfl⟩
theorem q_X5_become_6 : decode M_X5_become.2.1 6 = .ok (.lload_n 2, 1) ∧ 6 + 1 = 7 := ⟨dcAll_e (i := 4) da_X5_become_0 rfl, rfl⟩
theorem q_X5_become_7 : decode M_X5_become.2.1 7 = .ok (.putfield 26, 3) ∧ 7 + 3 = 10 := ⟨dcAll_e (i := 5) da_X5_become_0 rfl, rfl⟩
theorem p_RX5_26 : en_Fp RX5 26 5 1 false .long := ⟨RX5, TX5, 11, tyX5, rfl, by decide, rfl, inT1 212 rfl rfl, uw_X5, tyX5_ok, nmX5, rfl, by decide +kernel⟩
theorem q_X5_become_10 : decode M_X5_become.2.1 10 = .ok (.aload_n 0, 1) ∧ 10 + 1 = 11 := ⟨dcAll_e (i := 6) da_X5_become_0 rfl, rfl⟩
theorem q_X5_become_11 : decode M_X5_become.2.1 11 = .ok (.lload 4, 2) ∧ 11 + 2 = 13 := ⟨dcAll_e (i := 7) da_X5_become_0 rfl, rfl⟩
theorem q_X5_become_13 : decode M_X5_become.2.1 13 = .ok (.putfield 30, 3) ∧ 13 + 3 = 16 := ⟨dcAll_e (i := 8) da_X5_become_0 rfl, rfl⟩
theorem p_RX5_30 : en_Fp RX5 30 5 2 false .long := ⟨RX5, TX5, 11, tyX5, rfl, by decide, rfl, inT1 215 rfl rfl, uw_X5, tyX5_ok, nmX5, rfl, by decide +kernel⟩
theorem q_X5_become_16 : decode M_X5_become.2.1 16 = .ok (.aload_n 0, 1) ∧ 16 + 1 = 17 := ⟨dcAll_e (i := 9) da_X5_become_0 rfl, rfl⟩
theorem q_X5_become_17 : decode M_X5_become.2.1 17 = .ok (.iconst 0, 1) ∧ 17 + 1 = 18 := ⟨dcAll_e (i := 10) da_X5_become_0 rfl, rfl⟩
theorem q_X5_become_18 : decode M_X5_become.2.1 18 = .ok (.putfield 33, 3) ∧ 18 + 3 = 21 := ⟨dcAll_e (i := 11) da_X5_become_0 rfl, rfl⟩
theorem p_RX5_33 : en_Fp RX5 33 5 5 false .int := ⟨RX5, TX5, 11, tyX5, rfl, by decide, rfl, inT1 222 rfl rfl, uw_X5, tyX5_ok, nmX5, rfl, by decide +kernel⟩
theorem q_X5_become_21 : decode M_X5_become.2.1 21 = .ok (.aload_n 0, 1) ∧ 21 + 1 = 22 := ⟨dcAll_e (i := 12) da_X5_become_0 rfl, rfl⟩
theorem q_X5_become_22 : decode M_X5_become.2.1 22 = .ok (.iconst 0, 1) ∧ 22 + 1 = 23 := ⟨dcAll_e (i := 13) da_X5_become_0 rfl, rfl⟩
theorem q_X5_become_23 : decode M_X5_become.2.1 23 = .ok (.putfield 36, 3) ∧ 23 + 3 = 26 := ⟨dcAll_e (i := 14) da_X5_become_0 rfl, rfl⟩
theorem p_RX5_36 : en_Fp RX5 36 5 9 false .int := ⟨RX5, TX5, 11, tyX5, rfl, by decide, rfl, inT1 232 rfl rfl, uw_X5, tyX5_ok, nmX5, rfl, by decide +kernel⟩
theorem q_X5_become_26 : decode M_X5_become.2.1 26 = .ok (.return_, 1) ∧ 26 + 1 = 27 := ⟨dcAll_e (i := 15) da_X5_become_0 rfl, rfl⟩
def dl_X5_stemFrom_0 : List (Nat × Instr × Nat) := [(0, .aload_n 0, 1), (1, .iload_n 1, 1), (2, .putfield 39, 3), (5, .aload_n 0, 1), (6, .iload_n 2, 1), (7, .putfield 42, 3), (10, .return_, 1)]
theorem da_X5_stemFrom_0 : dcAll M_X5_stemFrom.2.1 dl_X5_stemFrom_0 = true := by decide +kernel
theorem q_X5_stemFrom_0 : decode M_X5_stemFrom.2.1 0 = .ok (.aload_n 0, 1) ∧ 0 + 1 = 1 := ⟨dcAll_e (i := 0) da_X5_stemFrom_0 rfl, rfl⟩
theorem q_X5_stemFrom_1 : decode M_X5_stemFrom.2.1 1 = .ok (.iload_n 1, 1) ∧ 1 + 1 = 2 := ⟨dcAll_e (i := 1) da_X5_stemFrom_0 rfl, rfl⟩
theorem q_X5_stemFrom_2 : decode M_X5_stemFrom.2.1 2 = .ok (.putfield 39, 3) ∧ 2 + 3 = 5 := ⟨dcAll_e (i := 2) da_X5_stemFrom_0 rfl, rfl⟩
theorem p_RX5_39 : en_Fp RX5 39 5 3 false .int := ⟨RX5, TX5, 11, tyX5, rfl, by decide, rfl, inT1 219 rfl rfl, uw_X5, tyX5_ok, nmX5, rfl, by decide +kernel⟩
theorem q_X5_stemFrom_5 : decode M_X5_stemFrom.2.1 5 = .ok (.aload_n 0, 1) ∧ 5 + 1 = 6 := ⟨dcAll_e (i := 3) da_X5_stemFrom_0 rfl, rfl⟩
theorem q_X5_stemFrom_6 : decode M_X5_stemFrom.2.1 6 = .ok (.iload_n 2, 1) ∧ 6 + 1 = 7 := ⟨dcAll_e (i := 4) da_X5_stemFrom_0 rfl, rfl⟩
theorem q_X5_stemFrom_7 : decode M_X5_stemFrom.2.1 7 = .ok (.putfield 42, 3) ∧ 7 + 3 = 10 := ⟨dcAll_e (i := 5) da_X5_stemFrom_0 rfl, rfl⟩
theorem p_RX5_42 : en_Fp RX5 42 5 4 false .int := ⟨RX5, TX5, 11, tyX5, rfl, by decide, rfl, inT1 221 rfl rfl, uw_X5, tyX5_ok, nmX5, rfl, by decide +kernel⟩
theorem q_X5_stemFrom_10 : decode M_X5_stemFrom.2.1 10 = .ok (.return_, 1) ∧ 10 + 1 = 11 := ⟨dcAll_e (i := 6) da_X5_stemFrom_0 rfl, rfl⟩
