/-! instructions, fields, calls -/
theorem q_X3_init_0 : decode M_X3_init.2.1 0 = .ok (.aload_n 0, 1) ∧ 0 + 1 = 1 := ⟨by decide +kernel, rfl⟩
theorem q_X3_init_1 : decode M_X3_init.2.1 1 = .ok (.invokespecial 1, 3) ∧ 1 + 3 = 4 := ⟨by decide +kernel, rfl⟩
theorem o_RX3_1 : Cond.methodLink RX3 1 Lib.objectInit ∈ en_tbl := by decide +kernel
theorem q_X3_init_4 : decode M_X3_init.2.1 4 = .ok (.aload_n 0, 1) ∧ 4 + 1 = 5 := ⟨by decide +kernel, rfl⟩
theorem q_X3_init_5 : decode M_X3_init.2.1 5 = .ok (.new 7, 3) ∧ 5 + 3 = 8 := ⟨by decide +kernel, rfl⟩
theorem n_RX3_7 : en_N RX3 7 1 3 [.int 0, .int 0, .null] := ⟨RX1, TX1, tyX1, rfl, by decide +kernel, by decide +kernel, by decide +kernel, by decide +kernel, tyX1_ok, fun j hj => by match j, hj with | 0, _ => rfl | 1, _ => rfl | 2, _ => rfl | j + 3, h => omega⟩
theorem q_X3_init_8 : decode M_X3_init.2.1 8 = .ok (.dup, 1) ∧ 8 + 1 = 9 := ⟨by decide +kernel, rfl⟩
theorem q_X3_init_9 : decode M_X3_init.2.1 9 = .ok (.invokespecial 9, 3) ∧ 9 + 3 = 12 := ⟨by decide +kernel, rfl⟩
theorem g_X3_init_9 : en_CN M_X3_init M_X1_init 9 0 "EnclosedDigits" := ⟨⟨by decide +kernel, by decide +kernel, by decide +kernel⟩, ⟨by decide, by decide, by decide +kernel⟩, by decide, by decide⟩
theorem q_X3_init_12 : decode M_X3_init.2.1 12 = .ok (.putfield 10, 3) ∧ 12 + 3 = 15 := ⟨by decide +kernel, rfl⟩
theorem p_RX3_10 : en_Fp RX3 10 3 0 false (.object "EnclosedDigits$Big") := ⟨RX3, TX3, 4, tyX3, rfl, by decide, rfl, by decide +kernel, by decide +kernel, tyX3_ok, nmX3, rfl, by decide +kernel⟩
theorem q_X3_init_15 : decode M_X3_init.2.1 15 = .ok (.aload_n 0, 1) ∧ 15 + 1 = 16 := ⟨by decide +kernel, rfl⟩
theorem q_X3_init_16 : decode M_X3_init.2.1 16 = .ok (.new 7, 3) ∧ 16 + 3 = 19 := ⟨by decide +kernel, rfl⟩
theorem q_X3_init_19 : decode M_X3_init.2.1 19 = .ok (.dup, 1) ∧ 19 + 1 = 20 := ⟨by decide +kernel, rfl⟩
theorem q_X3_init_20 : decode M_X3_init.2.1 20 = .ok (.invokespecial 9, 3) ∧ 20 + 3 = 23 := ⟨by decide +kernel, rfl⟩
theorem g_X3_init_20 : en_CN M_X3_init M_X1_init 9 0 "EnclosedDigits" := ⟨⟨by decide +kernel, by decide +kernel, by decide +kernel⟩, ⟨by decide, by decide, by decide +kernel⟩, by decide, by decide⟩
theorem q_X3_init_23 : decode M_X3_init.2.1 23 = .ok (.putfield 16, 3) ∧ 23 + 3 = 26 := ⟨by decide +kernel, rfl⟩
theorem p_RX3_16 : en_Fp RX3 16 3 1 false (.object "EnclosedDigits$Big") := ⟨RX3, TX3, 4, tyX3, rfl, by decide, rfl, by decide +kernel, by decide +kernel, tyX3_ok, nmX3, rfl, by decide +kernel⟩
theorem q_X3_init_26 : decode M_X3_init.2.1 26 = .ok (.aload_n 0, 1) ∧ 26 + 1 = 27 := ⟨by decide +kernel, rfl⟩
theorem q_X3_init_27 : decode M_X3_init.2.1 27 = .ok (.new 7, 3) ∧ 27 + 3 = 30 := ⟨by decide +kernel, rfl⟩
theorem q_X3_init_30 : decode M_X3_init.2.1 30 = .ok (.dup, 1) ∧ 30 + 1 = 31 := ⟨by decide +kernel, rfl⟩
theorem q_X3_init_31 : decode M_X3_init.2.1 31 = .ok (.invokespecial 9, 3) ∧ 31 + 3 = 34 := ⟨by decide +kernel, rfl⟩
theorem g_X3_init_31 : en_CN M_X3_init M_X1_init 9 0 "EnclosedDigits" := ⟨⟨by decide +kernel, by decide +kernel, by decide +kernel⟩, ⟨by decide, by decide, by decide +kernel⟩, by decide, by decide⟩
theorem q_X3_init_34 : decode M_X3_init.2.1 34 = .ok (.putfield 19, 3) ∧ 34 + 3 = 37 := ⟨by decide +kernel, rfl⟩
theorem p_RX3_19 : en_Fp RX3 19 3 2 false (.object "EnclosedDigits$Big") := ⟨RX3, TX3, 4, tyX3, rfl, by decide, rfl, by decide +kernel, by decide +kernel, tyX3_ok, nmX3, rfl, by decide +kernel⟩
theorem q_X3_init_37 : decode M_X3_init.2.1 37 = .ok (.aload_n 0, 1) ∧ 37 + 1 = 38 := ⟨by decide +kernel, rfl⟩
theorem q_X3_init_38 : decode M_X3_init.2.1 38 = .ok (.new 7, 3) ∧ 38 + 3 = 41 := ⟨by decide +kernel, rfl⟩
theorem q_X3_init_41 : decode M_X3_init.2.1 41 = .ok (.dup, 1) ∧ 41 + 1 = 42 := ⟨by decide +kernel, rfl⟩
theorem q_X3_init_42 : decode M_X3_init.2.1 42 = .ok (.invokespecial 9, 3) ∧ 42 + 3 = 45 := ⟨by decide +kernel, rfl⟩
theorem g_X3_init_42 : en_CN M_X3_init M_X1_init 9 0 "EnclosedDigits" := ⟨⟨by decide +kernel, by decide +kernel, by decide +kernel⟩, ⟨by decide, by decide, by decide +kernel⟩, by decide, by decide⟩
theorem q_X3_init_45 : decode M_X3_init.2.1 45 = .ok (.putfield 22, 3) ∧ 45 + 3 = 48 := ⟨by decide +kernel, rfl⟩
theorem p_RX3_22 : en_Fp RX3 22 3 3 true (.object "EnclosedDigits$Big") := ⟨RX3, TX3, 4, tyX3, rfl, by decide, rfl, by decide +kernel, by decide +kernel, tyX3_ok, nmX3, rfl, by decide +kernel⟩
theorem q_X3_init_48 : decode M_X3_init.2.1 48 = .ok (.return_, 1) ∧ 48 + 1 = 49 := ⟨by decide +kernel, rfl⟩
theorem q_X3_start_0 : decode M_X3_start.2.1 0 = .ok (.aload_n 0, 1) ∧ 0 + 1 = 1 := ⟨by decide +kernel, rfl⟩
theorem q_X3_start_1 : decode M_X3_start.2.1 1 = .ok (.getfield 10, 3) ∧ 1 + 3 = 4 := ⟨by decide +kernel, rfl⟩
theorem f_RX3_10 : en_F RX3 10 3 0 := ⟨RX3, TX3, 4, rfl, by decide, rfl, by decide +kernel, by decide +kernel⟩
theorem q_X3_start_4 : decode M_X3_start.2.1 4 = .ok (.aload_n 1, 1) ∧ 4 + 1 = 5 := ⟨by decide +kernel, rfl⟩
theorem q_X3_start_5 : decode M_X3_start.2.1 5 = .ok (.invokevirtual 25, 3) ∧ 5 + 3 = 8 := ⟨by decide +kernel, rfl⟩
theorem g_X3_start_5 : en_C M_X3_start M_X1_copy 25 1 := ⟨⟨by decide +kernel, by decide +kernel, by decide +kernel⟩, ⟨by decide, by decide, by decide +kernel⟩, by decide, by decide⟩
theorem q_X3_start_8 : decode M_X3_start.2.1 8 = .ok (.aload_n 0, 1) ∧ 8 + 1 = 9 := ⟨by decide +kernel, rfl⟩
theorem q_X3_start_9 : decode M_X3_start.2.1 9 = .ok (.getfield 16, 3) ∧ 9 + 3 = 12 := ⟨by decide +kernel, rfl⟩
theorem f_RX3_16 : en_F RX3 16 3 1 := ⟨RX3, TX3, 4, rfl, by decide, rfl, by decide +kernel, by decide +kernel⟩
theorem q_X3_start_12 : decode M_X3_start.2.1 12 = .ok (.lconst 1, 1) ∧ 12 + 1 = 13 := ⟨by decide +kernel, rfl⟩
theorem q_X3_start_13 : decode M_X3_start.2.1 13 = .ok (.invokevirtual 29, 3) ∧ 13 + 3 = 16 := ⟨by decide +kernel, rfl⟩
theorem g_X3_start_13 : en_C M_X3_start M_X1_setLong 29 1 := ⟨⟨by decide +kernel, by decide +kernel, by decide +kernel⟩, ⟨by decide, by decide, by decide +kernel⟩, by decide, by decide⟩
theorem q_X3_start_16 : decode M_X3_start.2.1 16 = .ok (.aload_n 0, 1) ∧ 16 + 1 = 17 := ⟨by decide +kernel, rfl⟩
theorem q_X3_start_17 : decode M_X3_start.2.1 17 = .ok (.getfield 16, 3) ∧ 17 + 3 = 20 := ⟨by decide +kernel, rfl⟩
theorem q_X3_start_20 : decode M_X3_start.2.1 20 = .ok (.iload_n 2, 1) ∧ 20 + 1 = 21 := ⟨by decide +kernel, rfl⟩
theorem q_X3_start_21 : decode M_X3_start.2.1 21 = .ok (.invokevirtual 33, 3) ∧ 21 + 3 = 24 := ⟨by decide +kernel, rfl⟩
theorem g_X3_start_21 : en_C M_X3_start M_X1_shiftUp 33 1 := ⟨⟨by decide +kernel, by decide +kernel, by decide +kernel⟩, ⟨by decide, by decide, by decide +kernel⟩, by decide, by decide⟩
theorem q_X3_start_24 : decode M_X3_start.2.1 24 = .ok (.return_, 1) ∧ 24 + 1 = 25 := ⟨by decide +kernel, rfl⟩
theorem q_X3_step_0 : decode M_X3_step.2.1 0 = .ok (.aload_n 0, 1) ∧ 0 + 1 = 1 := ⟨by decide +kernel, rfl⟩
theorem q_X3_step_1 : decode M_X3_step.2.1 1 = .ok (.getfield 16, 3) ∧ 1 + 3 = 4 := ⟨by decide +kernel, rfl⟩
theorem q_X3_step_4 : decode M_X3_step.2.1 4 = .ok (.getfield 37, 3) ∧ 4 + 3 = 7 := ⟨by decide +kernel, rfl⟩
theorem f_RX3_37 : en_F RX3 37 1 0 := ⟨RX1, TX1, 3, rfl, by decide, rfl, by decide +kernel, by decide +kernel⟩
theorem q_X3_step_7 : decode M_X3_step.2.1 7 = .ok (.ifCond .ne 5, 3) ∧ 7 + 3 = 10 ∧ ((7 : Nat) : Int) + 5 = ((12 : Nat) : Int) := ⟨by decide +kernel, rfl, rfl⟩
theorem q_X3_step_10 : decode M_X3_step.2.1 10 = .ok (.iconst 0, 1) ∧ 10 + 1 = 11 := ⟨by decide +kernel, rfl⟩
theorem q_X3_step_11 : decode M_X3_step.2.1 11 = .ok (.ireturn, 1) ∧ 11 + 1 = 12 := ⟨by decide +kernel, rfl⟩
theorem q_X3_step_12 : decode M_X3_step.2.1 12 = .ok (.aload_n 1, 1) ∧ 12 + 1 = 13 := ⟨by decide +kernel, rfl⟩
theorem q_X3_step_13 : decode M_X3_step.2.1 13 = .ok (.aload_n 0, 1) ∧ 13 + 1 = 14 := ⟨by decide +kernel, rfl⟩
theorem q_X3_step_14 : decode M_X3_step.2.1 14 = .ok (.getfield 10, 3) ∧ 14 + 3 = 17 := ⟨by decide +kernel, rfl⟩
theorem q_X3_step_17 : decode M_X3_step.2.1 17 = .ok (.aload_n 0, 1) ∧ 17 + 1 = 18 := ⟨by decide +kernel, rfl⟩
theorem q_X3_step_18 : decode M_X3_step.2.1 18 = .ok (.getfield 16, 3) ∧ 18 + 3 = 21 := ⟨by decide +kernel, rfl⟩
theorem q_X3_step_21 : decode M_X3_step.2.1 21 = .ok (.aload_n 0, 1) ∧ 21 + 1 = 22 := ⟨by decide +kernel, rfl⟩
theorem q_X3_step_22 : decode M_X3_step.2.1 22 = .ok (.getfield 22, 3) ∧ 22 + 3 = 25 := ⟨by decide +kernel, rfl⟩
theorem f_RX3_22 : en_F RX3 22 3 3 := ⟨RX3, TX3, 4, rfl, by decide, rfl, by decide +kernel, by decide +kernel⟩
theorem q_X3_step_25 : decode M_X3_step.2.1 25 = .ok (.aload_n 0, 1) ∧ 25 + 1 = 26 := ⟨by decide +kernel, rfl⟩
theorem q_X3_step_26 : decode M_X3_step.2.1 26 = .ok (.getfield 19, 3) ∧ 26 + 3 = 29 := ⟨by decide +kernel, rfl⟩
theorem f_RX3_19 : en_F RX3 19 3 2 := ⟨RX3, TX3, 4, rfl, by decide, rfl, by decide +kernel, by decide +kernel⟩
theorem q_X3_step_29 : decode M_X3_step.2.1 29 = .ok (.invokevirtual 41, 3) ∧ 29 + 3 = 32 := ⟨by decide +kernel, rfl⟩
theorem g_X3_step_29 : en_C M_X3_step M_X0_divide 41 4 := ⟨⟨by decide +kernel, by decide +kernel, by decide +kernel⟩, ⟨by decide, by decide, by decide +kernel⟩, by decide, by decide⟩
theorem q_X3_step_32 : decode M_X3_step.2.1 32 = .ok (.aload_n 0, 1) ∧ 32 + 1 = 33 := ⟨by decide +kernel, rfl⟩
theorem q_X3_step_33 : decode M_X3_step.2.1 33 = .ok (.getfield 10, 3) ∧ 33 + 3 = 36 := ⟨by decide +kernel, rfl⟩
theorem q_X3_step_36 : decode M_X3_step.2.1 36 = .ok (.getfield 37, 3) ∧ 36 + 3 = 39 := ⟨by decide +kernel, rfl⟩
theorem q_X3_step_39 : decode M_X3_step.2.1 39 = .ok (.ifCond .ge 7, 3) ∧ 39 + 3 = 42 ∧ ((39 : Nat) : Int) + 7 = ((46 : Nat) : Int) := ⟨by decide +kernel, rfl, rfl⟩
theorem q_X3_step_42 : decode M_X3_step.2.1 42 = .ok (.aload_n 0, 1) ∧ 42 + 1 = 43 := ⟨by decide +kernel, rfl⟩
theorem q_X3_step_43 : decode M_X3_step.2.1 43 = .ok (.invokevirtual 47, 3) ∧ 43 + 3 = 46 := ⟨by decide +kernel, rfl⟩
theorem g_X3_step_43 : en_C M_X3_step M_X3_roundDown 47 0 := ⟨⟨by decide +kernel, by decide +kernel, by decide +kernel⟩, ⟨by decide, by decide, by decide +kernel⟩, by decide, by decide⟩
theorem w_X3_roundDown : Cond.instanceMethod M_X3_roundDown.1 ∈ en_tbl ∧ Cond.selects M_X3_roundDown.1.cls M_X3_roundDown.1 M_X3_roundDown.1 ∈ en_tbl := ⟨by decide +kernel, by decide +kernel⟩
theorem q_X3_step_46 : decode M_X3_step.2.1 46 = .ok (.aload_n 0, 1) ∧ 46 + 1 = 47 := ⟨by decide +kernel, rfl⟩
theorem q_X3_step_47 : decode M_X3_step.2.1 47 = .ok (.getfield 10, 3) ∧ 47 + 3 = 50 := ⟨by decide +kernel, rfl⟩
theorem q_X3_step_50 : decode M_X3_step.2.1 50 = .ok (.astore_n 2, 1) ∧ 50 + 1 = 51 := ⟨by decide +kernel, rfl⟩
theorem q_X3_step_51 : decode M_X3_step.2.1 51 = .ok (.aload_n 0, 1) ∧ 51 + 1 = 52 := ⟨by decide +kernel, rfl⟩
theorem q_X3_step_52 : decode M_X3_step.2.1 52 = .ok (.aload_n 0, 1) ∧ 52 + 1 = 53 := ⟨by decide +kernel, rfl⟩
theorem q_X3_step_53 : decode M_X3_step.2.1 53 = .ok (.getfield 16, 3) ∧ 53 + 3 = 56 := ⟨by decide +kernel, rfl⟩
theorem q_X3_step_56 : decode M_X3_step.2.1 56 = .ok (.putfield 10, 3) ∧ 56 + 3 = 59 := ⟨by decide +kernel, rfl⟩
theorem q_X3_step_59 : decode M_X3_step.2.1 59 = .ok (.aload_n 0, 1) ∧ 59 + 1 = 60 := ⟨by decide +kernel, rfl⟩
theorem q_X3_step_60 : decode M_X3_step.2.1 60 = .ok (.aload_n 0, 1) ∧ 60 + 1 = 61 := ⟨by decide +kernel, rfl⟩
theorem q_X3_step_61 : decode M_X3_step.2.1 61 = .ok (.getfield 19, 3) ∧ 61 + 3 = 64 := ⟨by decide +kernel, rfl⟩
theorem q_X3_step_64 : decode M_X3_step.2.1 64 = .ok (.putfield 16, 3) ∧ 64 + 3 = 67 := ⟨by decide +kernel, rfl⟩
theorem q_X3_step_67 : decode M_X3_step.2.1 67 = .ok (.aload_n 0, 1) ∧ 67 + 1 = 68 := ⟨by decide +kernel, rfl⟩
theorem q_X3_step_68 : decode M_X3_step.2.1 68 = .ok (.aload_n 2, 1) ∧ 68 + 1 = 69 := ⟨by decide +kernel, rfl⟩
theorem q_X3_step_69 : decode M_X3_step.2.1 69 = .ok (.putfield 19, 3) ∧ 69 + 3 = 72 := ⟨by decide +kernel, rfl⟩
theorem q_X3_step_72 : decode M_X3_step.2.1 72 = .ok (.iconst 1, 1) ∧ 72 + 1 = 73 := ⟨by decide +kernel, rfl⟩
theorem q_X3_step_73 : decode M_X3_step.2.1 73 = .ok (.ireturn, 1) ∧ 73 + 1 = 74 := ⟨by decide +kernel, rfl⟩
theorem q_X3_roundDown_0 : decode M_X3_roundDown.2.1 0 = .ok (.aload_n 0, 1) ∧ 0 + 1 = 1 := ⟨by decide +kernel, rfl⟩
theorem q_X3_roundDown_1 : decode M_X3_roundDown.2.1 1 = .ok (.getfield 22, 3) ∧ 1 + 3 = 4 := ⟨by decide +kernel, rfl⟩
theorem q_X3_roundDown_4 : decode M_X3_roundDown.2.1 4 = .ok (.aload_n 0, 1) ∧ 4 + 1 = 5 := ⟨by decide +kernel, rfl⟩
theorem q_X3_roundDown_5 : decode M_X3_roundDown.2.1 5 = .ok (.getfield 22, 3) ∧ 5 + 3 = 8 := ⟨by decide +kernel, rfl⟩
theorem q_X3_roundDown_8 : decode M_X3_roundDown.2.1 8 = .ok (.getfield 37, 3) ∧ 8 + 3 = 11 := ⟨by decide +kernel, rfl⟩
theorem q_X3_roundDown_11 : decode M_X3_roundDown.2.1 11 = .ok (.ineg, 1) ∧ 11 + 1 = 12 := ⟨by decide +kernel, rfl⟩
theorem q_X3_roundDown_12 : decode M_X3_roundDown.2.1 12 = .ok (.putfield 37, 3) ∧ 12 + 3 = 15 := ⟨by decide +kernel, rfl⟩
theorem p_RX3_37 : en_Fp RX3 37 1 0 false .int := ⟨RX1, TX1, 3, tyX1, rfl, by decide, rfl, by decide +kernel, by decide +kernel, tyX1_ok, nmX1, rfl, by decide +kernel⟩
theorem q_X3_roundDown_15 : decode M_X3_roundDown.2.1 15 = .ok (.aload_n 0, 1) ∧ 15 + 1 = 16 := ⟨by decide +kernel, rfl⟩
theorem q_X3_roundDown_16 : decode M_X3_roundDown.2.1 16 = .ok (.getfield 19, 3) ∧ 16 + 3 = 19 := ⟨by decide +kernel, rfl⟩
theorem q_X3_roundDown_19 : decode M_X3_roundDown.2.1 19 = .ok (.getfield 37, 3) ∧ 19 + 3 = 22 := ⟨by decide +kernel, rfl⟩
theorem q_X3_roundDown_22 : decode M_X3_roundDown.2.1 22 = .ok (.ifCond .eq 37, 3) ∧ 22 + 3 = 25 ∧ ((22 : Nat) : Int) + 37 = ((59 : Nat) : Int) := ⟨by decide +kernel, rfl, rfl⟩
theorem q_X3_roundDown_25 : decode M_X3_roundDown.2.1 25 = .ok (.aload_n 0, 1) ∧ 25 + 1 = 26 := ⟨by decide +kernel, rfl⟩
theorem q_X3_roundDown_26 : decode M_X3_roundDown.2.1 26 = .ok (.getfield 22, 3) ∧ 26 + 3 = 29 := ⟨by decide +kernel, rfl⟩
theorem q_X3_roundDown_29 : decode M_X3_roundDown.2.1 29 = .ok (.iconst (-1), 1) ∧ 29 + 1 = 30 := ⟨by decide +kernel, rfl⟩
theorem q_X3_roundDown_30 : decode M_X3_roundDown.2.1 30 = .ok (.invokevirtual 50, 3) ∧ 30 + 3 = 33 := ⟨by decide +kernel, rfl⟩
theorem g_X3_roundDown_30 : en_C M_X3_roundDown M_X1_grow 50 1 := ⟨⟨by decide +kernel, by decide +kernel, by decide +kernel⟩, ⟨by decide, by decide, by decide +kernel⟩, by decide, by decide⟩
theorem q_X3_roundDown_33 : decode M_X3_roundDown.2.1 33 = .ok (.aload_n 0, 1) ∧ 33 + 1 = 34 := ⟨by decide +kernel, rfl⟩
theorem q_X3_roundDown_34 : decode M_X3_roundDown.2.1 34 = .ok (.getfield 19, 3) ∧ 34 + 3 = 37 := ⟨by decide +kernel, rfl⟩
theorem q_X3_roundDown_37 : decode M_X3_roundDown.2.1 37 = .ok (.aload_n 0, 1) ∧ 37 + 1 = 38 := ⟨by decide +kernel, rfl⟩
theorem q_X3_roundDown_38 : decode M_X3_roundDown.2.1 38 = .ok (.getfield 19, 3) ∧ 38 + 3 = 41 := ⟨by decide +kernel, rfl⟩
theorem q_X3_roundDown_41 : decode M_X3_roundDown.2.1 41 = .ok (.getfield 37, 3) ∧ 41 + 3 = 44 := ⟨by decide +kernel, rfl⟩
theorem q_X3_roundDown_44 : decode M_X3_roundDown.2.1 44 = .ok (.ineg, 1) ∧ 44 + 1 = 45 := ⟨by decide +kernel, rfl⟩
theorem q_X3_roundDown_45 : decode M_X3_roundDown.2.1 45 = .ok (.putfield 37, 3) ∧ 45 + 3 = 48 := ⟨by decide +kernel, rfl⟩
theorem q_X3_roundDown_48 : decode M_X3_roundDown.2.1 48 = .ok (.aload_n 0, 1) ∧ 48 + 1 = 49 := ⟨by decide +kernel, rfl⟩
theorem q_X3_roundDown_49 : decode M_X3_roundDown.2.1 49 = .ok (.getfield 19, 3) ∧ 49 + 3 = 52 := ⟨by decide +kernel, rfl⟩
theorem q_X3_roundDown_52 : decode M_X3_roundDown.2.1 52 = .ok (.aload_n 0, 1) ∧ 52 + 1 = 53 := ⟨by decide +kernel, rfl⟩
theorem q_X3_roundDown_53 : decode M_X3_roundDown.2.1 53 = .ok (.getfield 16, 3) ∧ 53 + 3 = 56 := ⟨by decide +kernel, rfl⟩
theorem q_X3_roundDown_56 : decode M_X3_roundDown.2.1 56 = .ok (.invokevirtual 53, 3) ∧ 56 + 3 = 59 := ⟨by decide +kernel, rfl⟩
theorem g_X3_roundDown_56 : en_C M_X3_roundDown M_X1_add 53 1 := ⟨⟨by decide +kernel, by decide +kernel, by decide +kernel⟩, ⟨by decide, by decide, by decide +kernel⟩, by decide, by decide⟩
theorem q_X3_roundDown_59 : decode M_X3_roundDown.2.1 59 = .ok (.return_, 1) ∧ 59 + 1 = 60 := ⟨by decide +kernel, rfl⟩
theorem q_X4_init_0 : decode M_X4_init.2.1 0 = .ok (.aload_n 0, 1) ∧ 0 + 1 = 1 := ⟨by decide +kernel, rfl⟩
theorem q_X4_init_1 : decode M_X4_init.2.1 1 = .ok (.invokespecial 3, 3) ∧ 1 + 3 = 4 := ⟨by decide +kernel, rfl⟩
theorem o_RX4_3 : Cond.methodLink RX4 3 Lib.objectInit ∈ en_tbl := by decide +kernel
theorem q_X4_init_4 : decode M_X4_init.2.1 4 = .ok (.aload_n 0, 1) ∧ 4 + 1 = 5 := ⟨by decide +kernel, rfl⟩
theorem q_X4_init_5 : decode M_X4_init.2.1 5 = .ok (.new 9, 3) ∧ 5 + 3 = 8 := ⟨by decide +kernel, rfl⟩
theorem n_RX4_9 : en_N RX4 9 1 3 [.int 0, .int 0, .null] := ⟨RX1, TX1, tyX1, rfl, by decide +kernel, by decide +kernel, by decide +kernel, by decide +kernel, tyX1_ok, fun j hj => by match j, hj with | 0, _ => rfl | 1, _ => rfl | 2, _ => rfl | j + 3, h => omega⟩
theorem q_X4_init_8 : decode M_X4_init.2.1 8 = .ok (.dup, 1) ∧ 8 + 1 = 9 := ⟨by decide +kernel, rfl⟩
theorem q_X4_init_9 : decode M_X4_init.2.1 9 = .ok (.invokespecial 11, 3) ∧ 9 + 3 = 12 := ⟨by decide +kernel, rfl⟩
theorem g_X4_init_9 : en_CN M_X4_init M_X1_init 11 0 "EnclosedDigits" := ⟨⟨by decide +kernel, by decide +kernel, by decide +kernel⟩, ⟨by decide, by decide, by decide +kernel⟩, by decide, by decide⟩
theorem q_X4_init_12 : decode M_X4_init.2.1 12 = .ok (.putfield 12, 3) ∧ 12 + 3 = 15 := ⟨by decide +kernel, rfl⟩
theorem p_RX4_12 : en_Fp RX4 12 4 0 true (.object "EnclosedDigits$Big") := ⟨RX4, TX4, 5, tyX4, rfl, by decide, rfl, by decide +kernel, by decide +kernel, tyX4_ok, nmX4, rfl, by decide +kernel⟩
theorem q_X4_init_15 : decode M_X4_init.2.1 15 = .ok (.aload_n 0, 1) ∧ 15 + 1 = 16 := ⟨by decide +kernel, rfl⟩
theorem q_X4_init_16 : decode M_X4_init.2.1 16 = .ok (.new 9, 3) ∧ 16 + 3 = 19 := ⟨by decide +kernel, rfl⟩
theorem q_X4_init_19 : decode M_X4_init.2.1 19 = .ok (.dup, 1) ∧ 19 + 1 = 20 := ⟨by decide +kernel, rfl⟩
theorem q_X4_init_20 : decode M_X4_init.2.1 20 = .ok (.invokespecial 11, 3) ∧ 20 + 3 = 23 := ⟨by decide +kernel, rfl⟩
theorem g_X4_init_20 : en_CN M_X4_init M_X1_init 11 0 "EnclosedDigits" := ⟨⟨by decide +kernel, by decide +kernel, by decide +kernel⟩, ⟨by decide, by decide, by decide +kernel⟩, by decide, by decide⟩
theorem q_X4_init_23 : decode M_X4_init.2.1 23 = .ok (.putfield 18, 3) ∧ 23 + 3 = 26 := ⟨by decide +kernel, rfl⟩
theorem p_RX4_18 : en_Fp RX4 18 4 1 true (.object "EnclosedDigits$Big") := ⟨RX4, TX4, 5, tyX4, rfl, by decide, rfl, by decide +kernel, by decide +kernel, tyX4_ok, nmX4, rfl, by decide +kernel⟩
theorem q_X4_init_26 : decode M_X4_init.2.1 26 = .ok (.aload_n 0, 1) ∧ 26 + 1 = 27 := ⟨by decide +kernel, rfl⟩
theorem q_X4_init_27 : decode M_X4_init.2.1 27 = .ok (.new 9, 3) ∧ 27 + 3 = 30 := ⟨by decide +kernel, rfl⟩
theorem q_X4_init_30 : decode M_X4_init.2.1 30 = .ok (.dup, 1) ∧ 30 + 1 = 31 := ⟨by decide +kernel, rfl⟩
theorem q_X4_init_31 : decode M_X4_init.2.1 31 = .ok (.invokespecial 11, 3) ∧ 31 + 3 = 34 := ⟨by decide +kernel, rfl⟩
theorem g_X4_init_31 : en_CN M_X4_init M_X1_init 11 0 "EnclosedDigits" := ⟨⟨by decide +kernel, by decide +kernel, by decide +kernel⟩, ⟨by decide, by decide, by decide +kernel⟩, by decide, by decide⟩
theorem q_X4_init_34 : decode M_X4_init.2.1 34 = .ok (.putfield 21, 3) ∧ 34 + 3 = 37 := ⟨by decide +kernel, rfl⟩
theorem p_RX4_21 : en_Fp RX4 21 4 2 true (.object "EnclosedDigits$Big") := ⟨RX4, TX4, 5, tyX4, rfl, by decide, rfl, by decide +kernel, by decide +kernel, tyX4_ok, nmX4, rfl, by decide +kernel⟩
theorem q_X4_init_37 : decode M_X4_init.2.1 37 = .ok (.aload_n 0, 1) ∧ 37 + 1 = 38 := ⟨by decide +kernel, rfl⟩
theorem q_X4_init_38 : decode M_X4_init.2.1 38 = .ok (.new 9, 3) ∧ 38 + 3 = 41 := ⟨by decide +kernel, rfl⟩
theorem q_X4_init_41 : decode M_X4_init.2.1 41 = .ok (.dup, 1) ∧ 41 + 1 = 42 := ⟨by decide +kernel, rfl⟩
theorem q_X4_init_42 : decode M_X4_init.2.1 42 = .ok (.invokespecial 11, 3) ∧ 42 + 3 = 45 := ⟨by decide +kernel, rfl⟩
theorem g_X4_init_42 : en_CN M_X4_init M_X1_init 11 0 "EnclosedDigits" := ⟨⟨by decide +kernel, by decide +kernel, by decide +kernel⟩, ⟨by decide, by decide, by decide +kernel⟩, by decide, by decide⟩
theorem q_X4_init_45 : decode M_X4_init.2.1 45 = .ok (.putfield 24, 3) ∧ 45 + 3 = 48 := ⟨by decide +kernel, rfl⟩
theorem p_RX4_24 : en_Fp RX4 24 4 3 true (.object "EnclosedDigits$Big") := ⟨RX4, TX4, 5, tyX4, rfl, by decide, rfl, by decide +kernel, by decide +kernel, tyX4_ok, nmX4, rfl, by decide +kernel⟩
theorem q_X4_init_48 : decode M_X4_init.2.1 48 = .ok (.aload_n 0, 1) ∧ 48 + 1 = 49 := ⟨by decide +kernel, rfl⟩
theorem q_X4_init_49 : decode M_X4_init.2.1 49 = .ok (.new 9, 3) ∧ 49 + 3 = 52 := ⟨by decide +kernel, rfl⟩
theorem q_X4_init_52 : decode M_X4_init.2.1 52 = .ok (.dup, 1) ∧ 52 + 1 = 53 := ⟨by decide +kernel, rfl⟩
theorem q_X4_init_53 : decode M_X4_init.2.1 53 = .ok (.invokespecial 11, 3) ∧ 53 + 3 = 56 := ⟨by decide +kernel, rfl⟩
theorem g_X4_init_53 : en_CN M_X4_init M_X1_init 11 0 "EnclosedDigits" := ⟨⟨by decide +kernel, by decide +kernel, by decide +kernel⟩, ⟨by decide, by decide, by decide +kernel⟩, by decide, by decide⟩
theorem q_X4_init_56 : decode M_X4_init.2.1 56 = .ok (.putfield 27, 3) ∧ 56 + 3 = 59 := ⟨by decide +kernel, rfl⟩
theorem p_RX4_27 : en_Fp RX4 27 4 4 true (.object "EnclosedDigits$Big") := ⟨RX4, TX4, 5, tyX4, rfl, by decide, rfl, by decide +kernel, by decide +kernel, tyX4_ok, nmX4, rfl, by decide +kernel⟩
theorem q_X4_init_59 : decode M_X4_init.2.1 59 = .ok (.return_, 1) ∧ 59 + 1 = 60 := ⟨by decide +kernel, rfl⟩
theorem q_X4_refine_0 : decode M_X4_refine.2.1 0 = .ok (.bipush 12, 2) ∧ 0 + 2 = 2 := ⟨by decide +kernel, rfl⟩
theorem q_X4_refine_2 : decode M_X4_refine.2.1 2 = .ok (.istore_n 3, 1) ∧ 2 + 1 = 3 := ⟨by decide +kernel, rfl⟩
theorem q_X4_refine_3 : decode M_X4_refine.2.1 3 = .ok (.aload_n 0, 1) ∧ 3 + 1 = 4 := ⟨by decide +kernel, rfl⟩
theorem q_X4_refine_4 : decode M_X4_refine.2.1 4 = .ok (.getfield 27, 3) ∧ 4 + 3 = 7 := ⟨by decide +kernel, rfl⟩
theorem f_RX4_27 : en_F RX4 27 4 4 := ⟨RX4, TX4, 5, rfl, by decide, rfl, by decide +kernel, by decide +kernel⟩
theorem q_X4_refine_7 : decode M_X4_refine.2.1 7 = .ok (.ldc2_w 30, 3) ∧ 7 + 3 = 10 := ⟨by decide +kernel, rfl⟩
theorem k_RX4_30 : Cond.constantLong RX4 30 (lN 1000000) ∈ en_tbl := by decide +kernel
theorem q_X4_refine_10 : decode M_X4_refine.2.1 10 = .ok (.invokevirtual 32, 3) ∧ 10 + 3 = 13 := ⟨by decide +kernel, rfl⟩
theorem g_X4_refine_10 : en_C M_X4_refine M_X1_setLong 32 1 := ⟨⟨by decide +kernel, by decide +kernel, by decide +kernel⟩, ⟨by decide, by decide, by decide +kernel⟩, by decide, by decide⟩
theorem q_X4_refine_13 : decode M_X4_refine.2.1 13 = .ok (.iconst 0, 1) ∧ 13 + 1 = 14 := ⟨by decide +kernel, rfl⟩
theorem q_X4_refine_14 : decode M_X4_refine.2.1 14 = .ok (.istore 4, 2) ∧ 14 + 2 = 16 := ⟨by decide +kernel, rfl⟩
theorem q_X4_refine_16 : decode M_X4_refine.2.1 16 = .ok (.iload 4, 2) ∧ 16 + 2 = 18 := ⟨by decide +kernel, rfl⟩
theorem q_X4_refine_18 : decode M_X4_refine.2.1 18 = .ok (.bipush 6, 2) ∧ 18 + 2 = 20 := ⟨by decide +kernel, rfl⟩
theorem q_X4_refine_20 : decode M_X4_refine.2.1 20 = .ok (.if_icmp .ge 172, 3) ∧ 20 + 3 = 23 ∧ ((20 : Nat) : Int) + 172 = ((192 : Nat) : Int) := ⟨by decide +kernel, rfl, rfl⟩
theorem q_X4_refine_23 : decode M_X4_refine.2.1 23 = .ok (.aload_n 1, 1) ∧ 23 + 1 = 24 := ⟨by decide +kernel, rfl⟩
theorem q_X4_refine_24 : decode M_X4_refine.2.1 24 = .ok (.getfield 36, 3) ∧ 24 + 3 = 27 := ⟨by decide +kernel, rfl⟩
theorem f_RX4_36 : en_F RX4 36 5 9 := ⟨RX5, TX5, 11, rfl, by decide, rfl, by decide +kernel, by decide +kernel⟩
theorem q_X4_refine_27 : decode M_X4_refine.2.1 27 = .ok (.iload_n 2, 1) ∧ 27 + 1 = 28 := ⟨by decide +kernel, rfl⟩
theorem q_X4_refine_28 : decode M_X4_refine.2.1 28 = .ok (.if_icmp .ge 164, 3) ∧ 28 + 3 = 31 ∧ ((28 : Nat) : Int) + 164 = ((192 : Nat) : Int) := ⟨by decide +kernel, rfl, rfl⟩
theorem q_X4_refine_31 : decode M_X4_refine.2.1 31 = .ok (.aload_n 0, 1) ∧ 31 + 1 = 32 := ⟨by decide +kernel, rfl⟩
theorem q_X4_refine_32 : decode M_X4_refine.2.1 32 = .ok (.getfield 21, 3) ∧ 32 + 3 = 35 := ⟨by decide +kernel, rfl⟩
theorem f_RX4_21 : en_F RX4 21 4 2 := ⟨RX4, TX4, 5, rfl, by decide, rfl, by decide +kernel, by decide +kernel⟩
theorem q_X4_refine_35 : decode M_X4_refine.2.1 35 = .ok (.invokevirtual 42, 3) ∧ 35 + 3 = 38 := ⟨by decide +kernel, rfl⟩
theorem g_X4_refine_35 : en_C M_X4_refine M_X1_clear 42 0 := ⟨⟨by decide +kernel, by decide +kernel, by decide +kernel⟩, ⟨by decide, by decide, by decide +kernel⟩, by decide, by decide⟩
theorem q_X4_refine_38 : decode M_X4_refine.2.1 38 = .ok (.aload_n 0, 1) ∧ 38 + 1 = 39 := ⟨by decide +kernel, rfl⟩
theorem q_X4_refine_39 : decode M_X4_refine.2.1 39 = .ok (.getfield 24, 3) ∧ 39 + 3 = 42 := ⟨by decide +kernel, rfl⟩
theorem f_RX4_24 : en_F RX4 24 4 3 := ⟨RX4, TX4, 5, rfl, by decide, rfl, by decide +kernel, by decide +kernel⟩
theorem q_X4_refine_42 : decode M_X4_refine.2.1 42 = .ok (.invokevirtual 42, 3) ∧ 42 + 3 = 45 := ⟨by decide +kernel, rfl⟩
theorem g_X4_refine_42 : en_C M_X4_refine M_X1_clear 42 0 := ⟨⟨by decide +kernel, by decide +kernel, by decide +kernel⟩, ⟨by decide, by decide, by decide +kernel⟩, by decide, by decide⟩
theorem q_X4_refine_45 : decode M_X4_refine.2.1 45 = .ok (.aload_n 1, 1) ∧ 45 + 1 = 46 := ⟨by decide +kernel, rfl⟩
theorem q_X4_refine_46 : decode M_X4_refine.2.1 46 = .ok (.getfield 45, 3) ∧ 46 + 3 = 49 := ⟨by decide +kernel, rfl⟩
theorem f_RX4_45 : en_F RX4 45 5 0 := ⟨RX5, TX5, 11, rfl, by decide, rfl, by decide +kernel, by decide +kernel⟩
theorem q_X4_refine_49 : decode M_X4_refine.2.1 49 = .ok (.iconst 4, 1) ∧ 49 + 1 = 50 := ⟨by decide +kernel, rfl⟩
theorem q_X4_refine_50 : decode M_X4_refine.2.1 50 = .ok (.if_icmp .ne 21, 3) ∧ 50 + 3 = 53 ∧ ((50 : Nat) : Int) + 21 = ((71 : Nat) : Int) := ⟨by decide +kernel, rfl, rfl⟩
theorem q_X4_refine_53 : decode M_X4_refine.2.1 53 = .ok (.aload_n 0, 1) ∧ 53 + 1 = 54 := ⟨by decide +kernel, rfl⟩
theorem q_X4_refine_54 : decode M_X4_refine.2.1 54 = .ok (.aload_n 1, 1) ∧ 54 + 1 = 55 := ⟨by decide +kernel, rfl⟩
theorem q_X4_refine_55 : decode M_X4_refine.2.1 55 = .ok (.getfield 48, 3) ∧ 55 + 3 = 58 := ⟨by decide +kernel, rfl⟩
theorem f_RX4_48 : en_F RX4 48 5 1 := ⟨RX5, TX5, 11, rfl, by decide, rfl, by decide +kernel, by decide +kernel⟩
theorem q_X4_refine_58 : decode M_X4_refine.2.1 58 = .ok (.aload_n 1, 1) ∧ 58 + 1 = 59 := ⟨by decide +kernel, rfl⟩
theorem q_X4_refine_59 : decode M_X4_refine.2.1 59 = .ok (.getfield 52, 3) ∧ 59 + 3 = 62 := ⟨by decide +kernel, rfl⟩
theorem f_RX4_52 : en_F RX4 52 5 2 := ⟨RX5, TX5, 11, rfl, by decide, rfl, by decide +kernel, by decide +kernel⟩
theorem q_X4_refine_62 : decode M_X4_refine.2.1 62 = .ok (.iload_n 2, 1) ∧ 62 + 1 = 63 := ⟨by decide +kernel, rfl⟩
theorem q_X4_refine_63 : decode M_X4_refine.2.1 63 = .ok (.iload_n 3, 1) ∧ 63 + 1 = 64 := ⟨by decide +kernel, rfl⟩
theorem q_X4_refine_64 : decode M_X4_refine.2.1 64 = .ok (.iadd, 1) ∧ 64 + 1 = 65 := ⟨by decide +kernel, rfl⟩
theorem q_X4_refine_65 : decode M_X4_refine.2.1 65 = .ok (.invokevirtual 55, 3) ∧ 65 + 3 = 68 := ⟨by decide +kernel, rfl⟩
theorem g_X4_refine_65 : en_C M_X4_refine M_X4_sumPower 55 3 := ⟨⟨by decide +kernel, by decide +kernel, by decide +kernel⟩, ⟨by decide, by decide, by decide +kernel⟩, by decide, by decide⟩
theorem w_X4_sumPower : Cond.instanceMethod M_X4_sumPower.1 ∈ en_tbl ∧ Cond.selects M_X4_sumPower.1.cls M_X4_sumPower.1 M_X4_sumPower.1 ∈ en_tbl := ⟨by decide +kernel, by decide +kernel⟩
theorem q_X4_refine_68 : decode M_X4_refine.2.1 68 = .ok (.goto 27, 3) ∧ 68 + 3 = 71 ∧ ((68 : Nat) : Int) + 27 = ((95 : Nat) : Int) := ⟨by decide +kernel, rfl, rfl⟩
theorem q_X4_refine_71 : decode M_X4_refine.2.1 71 = .ok (.aload_n 0, 1) ∧ 71 + 1 = 72 := ⟨by decide +kernel, rfl⟩
theorem q_X4_refine_72 : decode M_X4_refine.2.1 72 = .ok (.aload_n 1, 1) ∧ 72 + 1 = 73 := ⟨by decide +kernel, rfl⟩
theorem q_X4_refine_73 : decode M_X4_refine.2.1 73 = .ok (.getfield 48, 3) ∧ 73 + 3 = 76 := ⟨by decide +kernel, rfl⟩
theorem q_X4_refine_76 : decode M_X4_refine.2.1 76 = .ok (.aload_n 1, 1) ∧ 76 + 1 = 77 := ⟨by decide +kernel, rfl⟩
theorem q_X4_refine_77 : decode M_X4_refine.2.1 77 = .ok (.getfield 45, 3) ∧ 77 + 3 = 80 := ⟨by decide +kernel, rfl⟩
theorem q_X4_refine_80 : decode M_X4_refine.2.1 80 = .ok (.iconst 2, 1) ∧ 80 + 1 = 81 := ⟨by decide +kernel, rfl⟩
theorem q_X4_refine_81 : decode M_X4_refine.2.1 81 = .ok (.if_icmp .ne 7, 3) ∧ 81 + 3 = 84 ∧ ((81 : Nat) : Int) + 7 = ((88 : Nat) : Int) := ⟨by decide +kernel, rfl, rfl⟩
theorem q_X4_refine_84 : decode M_X4_refine.2.1 84 = .ok (.iconst 1, 1) ∧ 84 + 1 = 85 := ⟨by decide +kernel, rfl⟩
theorem q_X4_refine_85 : decode M_X4_refine.2.1 85 = .ok (.goto 4, 3) ∧ 85 + 3 = 88 ∧ ((85 : Nat) : Int) + 4 = ((89 : Nat) : Int) := ⟨by decide +kernel, rfl, rfl⟩
theorem q_X4_refine_88 : decode M_X4_refine.2.1 88 = .ok (.iconst 0, 1) ∧ 88 + 1 = 89 := ⟨by decide +kernel, rfl⟩
theorem q_X4_refine_89 : decode M_X4_refine.2.1 89 = .ok (.iload_n 2, 1) ∧ 89 + 1 = 90 := ⟨by decide +kernel, rfl⟩
theorem q_X4_refine_90 : decode M_X4_refine.2.1 90 = .ok (.iload_n 3, 1) ∧ 90 + 1 = 91 := ⟨by decide +kernel, rfl⟩
theorem q_X4_refine_91 : decode M_X4_refine.2.1 91 = .ok (.iadd, 1) ∧ 91 + 1 = 92 := ⟨by decide +kernel, rfl⟩
theorem q_X4_refine_92 : decode M_X4_refine.2.1 92 = .ok (.invokevirtual 59, 3) ∧ 92 + 3 = 95 := ⟨by decide +kernel, rfl⟩
theorem g_X4_refine_92 : en_C M_X4_refine M_X4_sumTangent 59 3 := ⟨⟨by decide +kernel, by decide +kernel, by decide +kernel⟩, ⟨by decide, by decide, by decide +kernel⟩, by decide, by decide⟩
theorem w_X4_sumTangent : Cond.instanceMethod M_X4_sumTangent.1 ∈ en_tbl ∧ Cond.selects M_X4_sumTangent.1.cls M_X4_sumTangent.1 M_X4_sumTangent.1 ∈ en_tbl := ⟨by decide +kernel, by decide +kernel⟩
theorem q_X4_refine_95 : decode M_X4_refine.2.1 95 = .ok (.aload_n 0, 1) ∧ 95 + 1 = 96 := ⟨by decide +kernel, rfl⟩
theorem q_X4_refine_96 : decode M_X4_refine.2.1 96 = .ok (.getfield 21, 3) ∧ 96 + 3 = 99 := ⟨by decide +kernel, rfl⟩
theorem q_X4_refine_99 : decode M_X4_refine.2.1 99 = .ok (.aload_n 0, 1) ∧ 99 + 1 = 100 := ⟨by decide +kernel, rfl⟩
theorem q_X4_refine_100 : decode M_X4_refine.2.1 100 = .ok (.getfield 24, 3) ∧ 100 + 3 = 103 := ⟨by decide +kernel, rfl⟩
theorem q_X4_refine_103 : decode M_X4_refine.2.1 103 = .ok (.invokevirtual 63, 3) ∧ 103 + 3 = 106 := ⟨by decide +kernel, rfl⟩
theorem g_X4_refine_103 : en_C M_X4_refine M_X1_subtract 63 1 := ⟨⟨by decide +kernel, by decide +kernel, by decide +kernel⟩, ⟨by decide, by decide, by decide +kernel⟩, by decide, by decide⟩
theorem w_X1_subtract : Cond.instanceMethod M_X1_subtract.1 ∈ en_tbl ∧ Cond.selects M_X1_subtract.1.cls M_X1_subtract.1 M_X1_subtract.1 ∈ en_tbl := ⟨by decide +kernel, by decide +kernel⟩
theorem q_X4_refine_106 : decode M_X4_refine.2.1 106 = .ok (.aload_n 1, 1) ∧ 106 + 1 = 107 := ⟨by decide +kernel, rfl⟩
theorem q_X4_refine_107 : decode M_X4_refine.2.1 107 = .ok (.getfield 67, 3) ∧ 107 + 3 = 110 := ⟨by decide +kernel, rfl⟩
theorem f_RX4_67 : en_F RX4 67 5 10 := ⟨RX5, TX5, 11, rfl, by decide, rfl, by decide +kernel, by decide +kernel⟩
theorem q_X4_refine_110 : decode M_X4_refine.2.1 110 = .ok (.aload_n 0, 1) ∧ 110 + 1 = 111 := ⟨by decide +kernel, rfl⟩
theorem q_X4_refine_111 : decode M_X4_refine.2.1 111 = .ok (.getfield 21, 3) ∧ 111 + 3 = 114 := ⟨by decide +kernel, rfl⟩
theorem q_X4_refine_114 : decode M_X4_refine.2.1 114 = .ok (.invokevirtual 70, 3) ∧ 114 + 3 = 117 := ⟨by decide +kernel, rfl⟩
theorem g_X4_refine_114 : en_C M_X4_refine M_X1_copy 70 1 := ⟨⟨by decide +kernel, by decide +kernel, by decide +kernel⟩, ⟨by decide, by decide, by decide +kernel⟩, by decide, by decide⟩
theorem q_X4_refine_117 : decode M_X4_refine.2.1 117 = .ok (.aload_n 1, 1) ∧ 117 + 1 = 118 := ⟨by decide +kernel, rfl⟩
theorem q_X4_refine_118 : decode M_X4_refine.2.1 118 = .ok (.getfield 67, 3) ∧ 118 + 3 = 121 := ⟨by decide +kernel, rfl⟩
theorem q_X4_refine_121 : decode M_X4_refine.2.1 121 = .ok (.aload_n 0, 1) ∧ 121 + 1 = 122 := ⟨by decide +kernel, rfl⟩
theorem q_X4_refine_122 : decode M_X4_refine.2.1 122 = .ok (.getfield 27, 3) ∧ 122 + 3 = 125 := ⟨by decide +kernel, rfl⟩
theorem q_X4_refine_125 : decode M_X4_refine.2.1 125 = .ok (.invokevirtual 63, 3) ∧ 125 + 3 = 128 := ⟨by decide +kernel, rfl⟩
theorem g_X4_refine_125 : en_C M_X4_refine M_X1_subtract 63 1 := ⟨⟨by decide +kernel, by decide +kernel, by decide +kernel⟩, ⟨by decide, by decide, by decide +kernel⟩, by decide, by decide⟩
theorem q_X4_refine_128 : decode M_X4_refine.2.1 128 = .ok (.aload_n 1, 1) ∧ 128 + 1 = 129 := ⟨by decide +kernel, rfl⟩
theorem q_X4_refine_129 : decode M_X4_refine.2.1 129 = .ok (.getfield 67, 3) ∧ 129 + 3 = 132 := ⟨by decide +kernel, rfl⟩
theorem q_X4_refine_132 : decode M_X4_refine.2.1 132 = .ok (.iload_n 3, 1) ∧ 132 + 1 = 133 := ⟨by decide +kernel, rfl⟩
theorem q_X4_refine_133 : decode M_X4_refine.2.1 133 = .ok (.iconst (-1), 1) ∧ 133 + 1 = 134 := ⟨by decide +kernel, rfl⟩
theorem q_X4_refine_134 : decode M_X4_refine.2.1 134 = .ok (.invokevirtual 73, 3) ∧ 134 + 3 = 137 := ⟨by decide +kernel, rfl⟩
theorem g_X4_refine_134 : en_C M_X4_refine M_X1_shrink 73 2 := ⟨⟨by decide +kernel, by decide +kernel, by decide +kernel⟩, ⟨by decide, by decide, by decide +kernel⟩, by decide, by decide⟩
theorem q_X4_refine_137 : decode M_X4_refine.2.1 137 = .ok (.aload_n 0, 1) ∧ 137 + 1 = 138 := ⟨by decide +kernel, rfl⟩
theorem q_X4_refine_138 : decode M_X4_refine.2.1 138 = .ok (.getfield 21, 3) ∧ 138 + 3 = 141 := ⟨by decide +kernel, rfl⟩
theorem q_X4_refine_141 : decode M_X4_refine.2.1 141 = .ok (.aload_n 0, 1) ∧ 141 + 1 = 142 := ⟨by decide +kernel, rfl⟩
theorem q_X4_refine_142 : decode M_X4_refine.2.1 142 = .ok (.getfield 27, 3) ∧ 142 + 3 = 145 := ⟨by decide +kernel, rfl⟩
theorem q_X4_refine_145 : decode M_X4_refine.2.1 145 = .ok (.invokevirtual 77, 3) ∧ 145 + 3 = 148 := ⟨by decide +kernel, rfl⟩
theorem g_X4_refine_145 : en_C M_X4_refine M_X1_add 77 1 := ⟨⟨by decide +kernel, by decide +kernel, by decide +kernel⟩, ⟨by decide, by decide, by decide +kernel⟩, by decide, by decide⟩
theorem q_X4_refine_148 : decode M_X4_refine.2.1 148 = .ok (.aload_n 0, 1) ∧ 148 + 1 = 149 := ⟨by decide +kernel, rfl⟩
theorem q_X4_refine_149 : decode M_X4_refine.2.1 149 = .ok (.getfield 21, 3) ∧ 149 + 3 = 152 := ⟨by decide +kernel, rfl⟩
theorem q_X4_refine_152 : decode M_X4_refine.2.1 152 = .ok (.iload_n 3, 1) ∧ 152 + 1 = 153 := ⟨by decide +kernel, rfl⟩
theorem q_X4_refine_153 : decode M_X4_refine.2.1 153 = .ok (.iconst (-1), 1) ∧ 153 + 1 = 154 := ⟨by decide +kernel, rfl⟩
theorem q_X4_refine_154 : decode M_X4_refine.2.1 154 = .ok (.invokevirtual 73, 3) ∧ 154 + 3 = 157 := ⟨by decide +kernel, rfl⟩
theorem g_X4_refine_154 : en_C M_X4_refine M_X1_shrink 73 2 := ⟨⟨by decide +kernel, by decide +kernel, by decide +kernel⟩, ⟨by decide, by decide, by decide +kernel⟩, by decide, by decide⟩
theorem q_X4_refine_157 : decode M_X4_refine.2.1 157 = .ok (.aload_n 0, 1) ∧ 157 + 1 = 158 := ⟨by decide +kernel, rfl⟩
theorem q_X4_refine_158 : decode M_X4_refine.2.1 158 = .ok (.getfield 21, 3) ∧ 158 + 3 = 161 := ⟨by decide +kernel, rfl⟩
theorem q_X4_refine_161 : decode M_X4_refine.2.1 161 = .ok (.aload_n 1, 1) ∧ 161 + 1 = 162 := ⟨by decide +kernel, rfl⟩
theorem q_X4_refine_162 : decode M_X4_refine.2.1 162 = .ok (.getfield 67, 3) ∧ 162 + 3 = 165 := ⟨by decide +kernel, rfl⟩
theorem q_X4_refine_165 : decode M_X4_refine.2.1 165 = .ok (.invokevirtual 80, 3) ∧ 165 + 3 = 168 := ⟨by decide +kernel, rfl⟩
theorem g_X4_refine_165 : en_C M_X4_refine M_X1_compare 80 1 := ⟨⟨by decide +kernel, by decide +kernel, by decide +kernel⟩, ⟨by decide, by decide, by decide +kernel⟩, by decide, by decide⟩
theorem q_X4_refine_168 : decode M_X4_refine.2.1 168 = .ok (.ifCond .eq 9, 3) ∧ 168 + 3 = 171 ∧ ((168 : Nat) : Int) + 9 = ((177 : Nat) : Int) := ⟨by decide +kernel, rfl, rfl⟩
theorem q_X4_refine_171 : decode M_X4_refine.2.1 171 = .ok (.iload 4, 2) ∧ 171 + 2 = 173 := ⟨by decide +kernel, rfl⟩
theorem q_X4_refine_173 : decode M_X4_refine.2.1 173 = .ok (.iconst 5, 1) ∧ 173 + 1 = 174 := ⟨by decide +kernel, rfl⟩
theorem q_X4_refine_174 : decode M_X4_refine.2.1 174 = .ok (.if_icmp .ne 8, 3) ∧ 174 + 3 = 177 ∧ ((174 : Nat) : Int) + 8 = ((182 : Nat) : Int) := ⟨by decide +kernel, rfl, rfl⟩
theorem q_X4_refine_177 : decode M_X4_refine.2.1 177 = .ok (.aload_n 1, 1) ∧ 177 + 1 = 178 := ⟨by decide +kernel, rfl⟩
theorem q_X4_refine_178 : decode M_X4_refine.2.1 178 = .ok (.iload_n 2, 1) ∧ 178 + 1 = 179 := ⟨by decide +kernel, rfl⟩
theorem q_X4_refine_179 : decode M_X4_refine.2.1 179 = .ok (.putfield 36, 3) ∧ 179 + 3 = 182 := ⟨by decide +kernel, rfl⟩
theorem p_RX4_36 : en_Fp RX4 36 5 9 false .int := ⟨RX5, TX5, 11, tyX5, rfl, by decide, rfl, by decide +kernel, by decide +kernel, tyX5_ok, nmX5, rfl, by decide +kernel⟩
theorem q_X4_refine_182 : decode M_X4_refine.2.1 182 = .ok (.iload_n 3, 1) ∧ 182 + 1 = 183 := ⟨by decide +kernel, rfl⟩
theorem q_X4_refine_183 : decode M_X4_refine.2.1 183 = .ok (.iconst 2, 1) ∧ 183 + 1 = 184 := ⟨by decide +kernel, rfl⟩
theorem q_X4_refine_184 : decode M_X4_refine.2.1 184 = .ok (.imul, 1) ∧ 184 + 1 = 185 := ⟨by decide +kernel, rfl⟩
theorem q_X4_refine_185 : decode M_X4_refine.2.1 185 = .ok (.istore_n 3, 1) ∧ 185 + 1 = 186 := ⟨by decide +kernel, rfl⟩
theorem q_X4_refine_186 : decode M_X4_refine.2.1 186 = .ok (.iinc 4 1, 3) ∧ 186 + 3 = 189 := ⟨by decide +kernel, rfl⟩
theorem q_X4_refine_189 : decode M_X4_refine.2.1 189 = .ok (.goto (-173), 3) ∧ 189 + 3 = 192 ∧ ((189 : Nat) : Int) + (-173) = ((16 : Nat) : Int) := ⟨by decide +kernel, rfl, rfl⟩
theorem q_X4_refine_192 : decode M_X4_refine.2.1 192 = .ok (.return_, 1) ∧ 192 + 1 = 193 := ⟨by decide +kernel, rfl⟩
theorem q_X4_sumTangent_0 : decode M_X4_sumTangent.2.1 0 = .ok (.lload_n 1, 1) ∧ 0 + 1 = 1 := ⟨by decide +kernel, rfl⟩
theorem q_X4_sumTangent_1 : decode M_X4_sumTangent.2.1 1 = .ok (.ldc2_w 84, 3) ∧ 1 + 3 = 4 := ⟨by decide +kernel, rfl⟩
theorem k_RX4_84 : Cond.constantLong RX4 84 (lN 90000) ∈ en_tbl := by decide +kernel
theorem q_X4_sumTangent_4 : decode M_X4_sumTangent.2.1 4 = .ok (.lcmp, 1) ∧ 4 + 1 = 5 := ⟨by decide +kernel, rfl⟩
theorem q_X4_sumTangent_5 : decode M_X4_sumTangent.2.1 5 = .ok (.ifCond .gt 7, 3) ∧ 5 + 3 = 8 ∧ ((5 : Nat) : Int) + 7 = ((12 : Nat) : Int) := ⟨by decide +kernel, rfl, rfl⟩
theorem q_X4_sumTangent_8 : decode M_X4_sumTangent.2.1 8 = .ok (.iconst 1, 1) ∧ 8 + 1 = 9 := ⟨by decide +kernel, rfl⟩
theorem q_X4_sumTangent_9 : decode M_X4_sumTangent.2.1 9 = .ok (.goto 4, 3) ∧ 9 + 3 = 12 ∧ ((9 : Nat) : Int) + 4 = ((13 : Nat) : Int) := ⟨by decide +kernel, rfl, rfl⟩
theorem q_X4_sumTangent_12 : decode M_X4_sumTangent.2.1 12 = .ok (.iconst 0, 1) ∧ 12 + 1 = 13 := ⟨by decide +kernel, rfl⟩
theorem q_X4_sumTangent_13 : decode M_X4_sumTangent.2.1 13 = .ok (.istore 5, 2) ∧ 13 + 2 = 15 := ⟨by decide +kernel, rfl⟩
theorem q_X4_sumTangent_15 : decode M_X4_sumTangent.2.1 15 = .ok (.aload_n 0, 1) ∧ 15 + 1 = 16 := ⟨by decide +kernel, rfl⟩
theorem q_X4_sumTangent_16 : decode M_X4_sumTangent.2.1 16 = .ok (.getfield 12, 3) ∧ 16 + 3 = 19 := ⟨by decide +kernel, rfl⟩
theorem f_RX4_12 : en_F RX4 12 4 0 := ⟨RX4, TX4, 5, rfl, by decide, rfl, by decide +kernel, by decide +kernel⟩
theorem q_X4_sumTangent_19 : decode M_X4_sumTangent.2.1 19 = .ok (.lconst 1, 1) ∧ 19 + 1 = 20 := ⟨by decide +kernel, rfl⟩
theorem q_X4_sumTangent_20 : decode M_X4_sumTangent.2.1 20 = .ok (.invokevirtual 32, 3) ∧ 20 + 3 = 23 := ⟨by decide +kernel, rfl⟩
theorem g_X4_sumTangent_20 : en_C M_X4_sumTangent M_X1_setLong 32 1 := ⟨⟨by decide +kernel, by decide +kernel, by decide +kernel⟩, ⟨by decide, by decide, by decide +kernel⟩, by decide, by decide⟩
theorem q_X4_sumTangent_23 : decode M_X4_sumTangent.2.1 23 = .ok (.aload_n 0, 1) ∧ 23 + 1 = 24 := ⟨by decide +kernel, rfl⟩
theorem q_X4_sumTangent_24 : decode M_X4_sumTangent.2.1 24 = .ok (.getfield 12, 3) ∧ 24 + 3 = 27 := ⟨by decide +kernel, rfl⟩
theorem q_X4_sumTangent_27 : decode M_X4_sumTangent.2.1 27 = .ok (.iload 4, 2) ∧ 27 + 2 = 29 := ⟨by decide +kernel, rfl⟩
theorem q_X4_sumTangent_29 : decode M_X4_sumTangent.2.1 29 = .ok (.invokevirtual 86, 3) ∧ 29 + 3 = 32 := ⟨by decide +kernel, rfl⟩
theorem g_X4_sumTangent_29 : en_C M_X4_sumTangent M_X1_shiftUp 86 1 := ⟨⟨by decide +kernel, by decide +kernel, by decide +kernel⟩, ⟨by decide, by decide, by decide +kernel⟩, by decide, by decide⟩
theorem q_X4_sumTangent_32 : decode M_X4_sumTangent.2.1 32 = .ok (.aload_n 0, 1) ∧ 32 + 1 = 33 := ⟨by decide +kernel, rfl⟩
theorem q_X4_sumTangent_33 : decode M_X4_sumTangent.2.1 33 = .ok (.getfield 12, 3) ∧ 33 + 3 = 36 := ⟨by decide +kernel, rfl⟩
theorem q_X4_sumTangent_36 : decode M_X4_sumTangent.2.1 36 = .ok (.lload_n 1, 1) ∧ 36 + 1 = 37 := ⟨by decide +kernel, rfl⟩
theorem q_X4_sumTangent_37 : decode M_X4_sumTangent.2.1 37 = .ok (.invokevirtual 90, 3) ∧ 37 + 3 = 40 := ⟨by decide +kernel, rfl⟩
theorem g_X4_sumTangent_37 : en_C M_X4_sumTangent M_X1_divideSmall 90 1 := ⟨⟨by decide +kernel, by decide +kernel, by decide +kernel⟩, ⟨by decide, by decide, by decide +kernel⟩, by decide, by decide⟩
theorem q_X4_sumTangent_40 : decode M_X4_sumTangent.2.1 40 = .ok (.pop2, 1) ∧ 40 + 1 = 41 := ⟨by decide +kernel, rfl⟩
theorem q_X4_sumTangent_41 : decode M_X4_sumTangent.2.1 41 = .ok (.iconst 0, 1) ∧ 41 + 1 = 42 := ⟨by decide +kernel, rfl⟩
theorem q_X4_sumTangent_42 : decode M_X4_sumTangent.2.1 42 = .ok (.istore 6, 2) ∧ 42 + 2 = 44 := ⟨by decide +kernel, rfl⟩
theorem q_X4_sumTangent_44 : decode M_X4_sumTangent.2.1 44 = .ok (.iload 6, 2) ∧ 44 + 2 = 46 := ⟨by decide +kernel, rfl⟩
theorem q_X4_sumTangent_46 : decode M_X4_sumTangent.2.1 46 = .ok (.sipush 10000, 3) ∧ 46 + 3 = 49 := ⟨by decide +kernel, rfl⟩
theorem q_X4_sumTangent_49 : decode M_X4_sumTangent.2.1 49 = .ok (.if_icmp .ge 115, 3) ∧ 49 + 3 = 52 ∧ ((49 : Nat) : Int) + 115 = ((164 : Nat) : Int) := ⟨by decide +kernel, rfl, rfl⟩
theorem q_X4_sumTangent_52 : decode M_X4_sumTangent.2.1 52 = .ok (.aload_n 0, 1) ∧ 52 + 1 = 53 := ⟨by decide +kernel, rfl⟩
theorem q_X4_sumTangent_53 : decode M_X4_sumTangent.2.1 53 = .ok (.getfield 12, 3) ∧ 53 + 3 = 56 := ⟨by decide +kernel, rfl⟩
theorem q_X4_sumTangent_56 : decode M_X4_sumTangent.2.1 56 = .ok (.getfield 94, 3) ∧ 56 + 3 = 59 := ⟨by decide +kernel, rfl⟩
theorem f_RX4_94 : en_F RX4 94 1 0 := ⟨RX1, TX1, 3, rfl, by decide, rfl, by decide +kernel, by decide +kernel⟩
theorem q_X4_sumTangent_59 : decode M_X4_sumTangent.2.1 59 = .ok (.ifCond .eq 105, 3) ∧ 59 + 3 = 62 ∧ ((59 : Nat) : Int) + 105 = ((164 : Nat) : Int) := ⟨by decide +kernel, rfl, rfl⟩
theorem q_X4_sumTangent_62 : decode M_X4_sumTangent.2.1 62 = .ok (.aload_n 0, 1) ∧ 62 + 1 = 63 := ⟨by decide +kernel, rfl⟩
theorem q_X4_sumTangent_63 : decode M_X4_sumTangent.2.1 63 = .ok (.getfield 18, 3) ∧ 63 + 3 = 66 := ⟨by decide +kernel, rfl⟩
theorem f_RX4_18 : en_F RX4 18 4 1 := ⟨RX4, TX4, 5, rfl, by decide, rfl, by decide +kernel, by decide +kernel⟩
theorem q_X4_sumTangent_66 : decode M_X4_sumTangent.2.1 66 = .ok (.aload_n 0, 1) ∧ 66 + 1 = 67 := ⟨by decide +kernel, rfl⟩
theorem q_X4_sumTangent_67 : decode M_X4_sumTangent.2.1 67 = .ok (.getfield 12, 3) ∧ 67 + 3 = 70 := ⟨by decide +kernel, rfl⟩
theorem q_X4_sumTangent_70 : decode M_X4_sumTangent.2.1 70 = .ok (.invokevirtual 70, 3) ∧ 70 + 3 = 73 := ⟨by decide +kernel, rfl⟩
theorem g_X4_sumTangent_70 : en_C M_X4_sumTangent M_X1_copy 70 1 := ⟨⟨by decide +kernel, by decide +kernel, by decide +kernel⟩, ⟨by decide, by decide, by decide +kernel⟩, by decide, by decide⟩
theorem q_X4_sumTangent_73 : decode M_X4_sumTangent.2.1 73 = .ok (.aload_n 0, 1) ∧ 73 + 1 = 74 := ⟨by decide +kernel, rfl⟩
theorem q_X4_sumTangent_74 : decode M_X4_sumTangent.2.1 74 = .ok (.getfield 18, 3) ∧ 74 + 3 = 77 := ⟨by decide +kernel, rfl⟩
theorem q_X4_sumTangent_77 : decode M_X4_sumTangent.2.1 77 = .ok (.ldc2_w 97, 3) ∧ 77 + 3 = 80 := ⟨by decide +kernel, rfl⟩
theorem k_RX4_97 : Cond.constantLong RX4 97 (lN 2) ∈ en_tbl := by decide +kernel
theorem q_X4_sumTangent_80 : decode M_X4_sumTangent.2.1 80 = .ok (.iload 6, 2) ∧ 80 + 2 = 82 := ⟨by decide +kernel, rfl⟩
theorem q_X4_sumTangent_82 : decode M_X4_sumTangent.2.1 82 = .ok (.i2l, 1) ∧ 82 + 1 = 83 := ⟨by decide +kernel, rfl⟩
theorem q_X4_sumTangent_83 : decode M_X4_sumTangent.2.1 83 = .ok (.lmul, 1) ∧ 83 + 1 = 84 := ⟨by decide +kernel, rfl⟩
theorem q_X4_sumTangent_84 : decode M_X4_sumTangent.2.1 84 = .ok (.lconst 1, 1) ∧ 84 + 1 = 85 := ⟨by decide +kernel, rfl⟩
theorem q_X4_sumTangent_85 : decode M_X4_sumTangent.2.1 85 = .ok (.ladd, 1) ∧ 85 + 1 = 86 := ⟨by decide +kernel, rfl⟩
theorem q_X4_sumTangent_86 : decode M_X4_sumTangent.2.1 86 = .ok (.invokevirtual 90, 3) ∧ 86 + 3 = 89 := ⟨by decide +kernel, rfl⟩
theorem g_X4_sumTangent_86 : en_C M_X4_sumTangent M_X1_divideSmall 90 1 := ⟨⟨by decide +kernel, by decide +kernel, by decide +kernel⟩, ⟨by decide, by decide, by decide +kernel⟩, by decide, by decide⟩
theorem q_X4_sumTangent_89 : decode M_X4_sumTangent.2.1 89 = .ok (.pop2, 1) ∧ 89 + 1 = 90 := ⟨by decide +kernel, rfl⟩
theorem q_X4_sumTangent_90 : decode M_X4_sumTangent.2.1 90 = .ok (.iload_n 3, 1) ∧ 90 + 1 = 91 := ⟨by decide +kernel, rfl⟩
theorem q_X4_sumTangent_91 : decode M_X4_sumTangent.2.1 91 = .ok (.ifCond .eq 18, 3) ∧ 91 + 3 = 94 ∧ ((91 : Nat) : Int) + 18 = ((109 : Nat) : Int) := ⟨by decide +kernel, rfl, rfl⟩
theorem q_X4_sumTangent_94 : decode M_X4_sumTangent.2.1 94 = .ok (.iload 6, 2) ∧ 94 + 2 = 96 := ⟨by decide +kernel, rfl⟩
theorem q_X4_sumTangent_96 : decode M_X4_sumTangent.2.1 96 = .ok (.iconst 2, 1) ∧ 96 + 1 = 97 := ⟨by decide +kernel, rfl⟩
theorem q_X4_sumTangent_97 : decode M_X4_sumTangent.2.1 97 = .ok (.irem, 1) ∧ 97 + 1 = 98 := ⟨by decide +kernel, rfl⟩
theorem q_X4_sumTangent_98 : decode M_X4_sumTangent.2.1 98 = .ok (.iconst 1, 1) ∧ 98 + 1 = 99 := ⟨by decide +kernel, rfl⟩
theorem q_X4_sumTangent_99 : decode M_X4_sumTangent.2.1 99 = .ok (.if_icmp .ne 10, 3) ∧ 99 + 3 = 102 ∧ ((99 : Nat) : Int) + 10 = ((109 : Nat) : Int) := ⟨by decide +kernel, rfl, rfl⟩
theorem q_X4_sumTangent_102 : decode M_X4_sumTangent.2.1 102 = .ok (.aload_n 0, 1) ∧ 102 + 1 = 103 := ⟨by decide +kernel, rfl⟩
theorem q_X4_sumTangent_103 : decode M_X4_sumTangent.2.1 103 = .ok (.getfield 24, 3) ∧ 103 + 3 = 106 := ⟨by decide +kernel, rfl⟩
theorem q_X4_sumTangent_106 : decode M_X4_sumTangent.2.1 106 = .ok (.goto 7, 3) ∧ 106 + 3 = 109 ∧ ((106 : Nat) : Int) + 7 = ((113 : Nat) : Int) := ⟨by decide +kernel, rfl, rfl⟩
theorem q_X4_sumTangent_109 : decode M_X4_sumTangent.2.1 109 = .ok (.aload_n 0, 1) ∧ 109 + 1 = 110 := ⟨by decide +kernel, rfl⟩
theorem q_X4_sumTangent_110 : decode M_X4_sumTangent.2.1 110 = .ok (.getfield 21, 3) ∧ 110 + 3 = 113 := ⟨by decide +kernel, rfl⟩
theorem q_X4_sumTangent_113 : decode M_X4_sumTangent.2.1 113 = .ok (.astore 7, 2) ∧ 113 + 2 = 115 := ⟨by decide +kernel, rfl⟩
theorem q_X4_sumTangent_115 : decode M_X4_sumTangent.2.1 115 = .ok (.aload 7, 2) ∧ 115 + 2 = 117 := ⟨by decide +kernel, rfl⟩
theorem q_X4_sumTangent_117 : decode M_X4_sumTangent.2.1 117 = .ok (.aload_n 0, 1) ∧ 117 + 1 = 118 := ⟨by decide +kernel, rfl⟩
theorem q_X4_sumTangent_118 : decode M_X4_sumTangent.2.1 118 = .ok (.getfield 18, 3) ∧ 118 + 3 = 121 := ⟨by decide +kernel, rfl⟩
theorem q_X4_sumTangent_121 : decode M_X4_sumTangent.2.1 121 = .ok (.invokevirtual 77, 3) ∧ 121 + 3 = 124 := ⟨by decide +kernel, rfl⟩
theorem g_X4_sumTangent_121 : en_C M_X4_sumTangent M_X1_add 77 1 := ⟨⟨by decide +kernel, by decide +kernel, by decide +kernel⟩, ⟨by decide, by decide, by decide +kernel⟩, by decide, by decide⟩
theorem q_X4_sumTangent_124 : decode M_X4_sumTangent.2.1 124 = .ok (.aload_n 0, 1) ∧ 124 + 1 = 125 := ⟨by decide +kernel, rfl⟩
theorem q_X4_sumTangent_125 : decode M_X4_sumTangent.2.1 125 = .ok (.getfield 12, 3) ∧ 125 + 3 = 128 := ⟨by decide +kernel, rfl⟩
theorem q_X4_sumTangent_128 : decode M_X4_sumTangent.2.1 128 = .ok (.iload 5, 2) ∧ 128 + 2 = 130 := ⟨by decide +kernel, rfl⟩
theorem q_X4_sumTangent_130 : decode M_X4_sumTangent.2.1 130 = .ok (.ifCond .eq 9, 3) ∧ 130 + 3 = 133 ∧ ((130 : Nat) : Int) + 9 = ((139 : Nat) : Int) := ⟨by decide +kernel, rfl, rfl⟩
theorem q_X4_sumTangent_133 : decode M_X4_sumTangent.2.1 133 = .ok (.lload_n 1, 1) ∧ 133 + 1 = 134 := ⟨by decide +kernel, rfl⟩
theorem q_X4_sumTangent_134 : decode M_X4_sumTangent.2.1 134 = .ok (.lload_n 1, 1) ∧ 134 + 1 = 135 := ⟨by decide +kernel, rfl⟩
theorem q_X4_sumTangent_135 : decode M_X4_sumTangent.2.1 135 = .ok (.lmul, 1) ∧ 135 + 1 = 136 := ⟨by decide +kernel, rfl⟩
theorem q_X4_sumTangent_136 : decode M_X4_sumTangent.2.1 136 = .ok (.goto 4, 3) ∧ 136 + 3 = 139 ∧ ((136 : Nat) : Int) + 4 = ((140 : Nat) : Int) := ⟨by decide +kernel, rfl, rfl⟩
theorem q_X4_sumTangent_139 : decode M_X4_sumTangent.2.1 139 = .ok (.lload_n 1, 1) ∧ 139 + 1 = 140 := ⟨by decide +kernel, rfl⟩
theorem q_X4_sumTangent_140 : decode M_X4_sumTangent.2.1 140 = .ok (.invokevirtual 90, 3) ∧ 140 + 3 = 143 := ⟨by decide +kernel, rfl⟩
theorem g_X4_sumTangent_140 : en_C M_X4_sumTangent M_X1_divideSmall 90 1 := ⟨⟨by decide +kernel, by decide +kernel, by decide +kernel⟩, ⟨by decide, by decide, by decide +kernel⟩, by decide, by decide⟩
theorem q_X4_sumTangent_143 : decode M_X4_sumTangent.2.1 143 = .ok (.pop2, 1) ∧ 143 + 1 = 144 := ⟨by decide +kernel, rfl⟩
theorem q_X4_sumTangent_144 : decode M_X4_sumTangent.2.1 144 = .ok (.iload 5, 2) ∧ 144 + 2 = 146 := ⟨by decide +kernel, rfl⟩
theorem q_X4_sumTangent_146 : decode M_X4_sumTangent.2.1 146 = .ok (.ifCond .ne 12, 3) ∧ 146 + 3 = 149 ∧ ((146 : Nat) : Int) + 12 = ((158 : Nat) : Int) := ⟨by decide +kernel, rfl, rfl⟩
theorem q_X4_sumTangent_149 : decode M_X4_sumTangent.2.1 149 = .ok (.aload_n 0, 1) ∧ 149 + 1 = 150 := ⟨by decide +kernel, rfl⟩
theorem q_X4_sumTangent_150 : decode M_X4_sumTangent.2.1 150 = .ok (.getfield 12, 3) ∧ 150 + 3 = 153 := ⟨by decide +kernel, rfl⟩
theorem q_X4_sumTangent_153 : decode M_X4_sumTangent.2.1 153 = .ok (.lload_n 1, 1) ∧ 153 + 1 = 154 := ⟨by decide +kernel, rfl⟩
theorem q_X4_sumTangent_154 : decode M_X4_sumTangent.2.1 154 = .ok (.invokevirtual 90, 3) ∧ 154 + 3 = 157 := ⟨by decide +kernel, rfl⟩
theorem g_X4_sumTangent_154 : en_C M_X4_sumTangent M_X1_divideSmall 90 1 := ⟨⟨by decide +kernel, by decide +kernel, by decide +kernel⟩, ⟨by decide, by decide, by decide +kernel⟩, by decide, by decide⟩
theorem q_X4_sumTangent_157 : decode M_X4_sumTangent.2.1 157 = .ok (.pop2, 1) ∧ 157 + 1 = 158 := ⟨by decide +kernel, rfl⟩
theorem q_X4_sumTangent_158 : decode M_X4_sumTangent.2.1 158 = .ok (.iinc 6 1, 3) ∧ 158 + 3 = 161 := ⟨by decide +kernel, rfl⟩
theorem q_X4_sumTangent_161 : decode M_X4_sumTangent.2.1 161 = .ok (.goto (-117), 3) ∧ 161 + 3 = 164 ∧ ((161 : Nat) : Int) + (-117) = ((44 : Nat) : Int) := ⟨by decide +kernel, rfl, rfl⟩
theorem q_X4_sumTangent_164 : decode M_X4_sumTangent.2.1 164 = .ok (.return_, 1) ∧ 164 + 1 = 165 := ⟨by decide +kernel, rfl⟩
theorem q_X4_sumPower_0 : decode M_X4_sumPower.2.1 0 = .ok (.aload_n 0, 1) ∧ 0 + 1 = 1 := ⟨by decide +kernel, rfl⟩
theorem q_X4_sumPower_1 : decode M_X4_sumPower.2.1 1 = .ok (.getfield 12, 3) ∧ 1 + 3 = 4 := ⟨by decide +kernel, rfl⟩
theorem q_X4_sumPower_4 : decode M_X4_sumPower.2.1 4 = .ok (.lconst 1, 1) ∧ 4 + 1 = 5 := ⟨by decide +kernel, rfl⟩
theorem q_X4_sumPower_5 : decode M_X4_sumPower.2.1 5 = .ok (.invokevirtual 32, 3) ∧ 5 + 3 = 8 := ⟨by decide +kernel, rfl⟩
theorem g_X4_sumPower_5 : en_C M_X4_sumPower M_X1_setLong 32 1 := ⟨⟨by decide +kernel, by decide +kernel, by decide +kernel⟩, ⟨by decide, by decide, by decide +kernel⟩, by decide, by decide⟩
theorem q_X4_sumPower_8 : decode M_X4_sumPower.2.1 8 = .ok (.aload_n 0, 1) ∧ 8 + 1 = 9 := ⟨by decide +kernel, rfl⟩
theorem q_X4_sumPower_9 : decode M_X4_sumPower.2.1 9 = .ok (.getfield 12, 3) ∧ 9 + 3 = 12 := ⟨by decide +kernel, rfl⟩
theorem q_X4_sumPower_12 : decode M_X4_sumPower.2.1 12 = .ok (.iload 5, 2) ∧ 12 + 2 = 14 := ⟨by decide +kernel, rfl⟩
theorem q_X4_sumPower_14 : decode M_X4_sumPower.2.1 14 = .ok (.invokevirtual 86, 3) ∧ 14 + 3 = 17 := ⟨by decide +kernel, rfl⟩
theorem g_X4_sumPower_14 : en_C M_X4_sumPower M_X1_shiftUp 86 1 := ⟨⟨by decide +kernel, by decide +kernel, by decide +kernel⟩, ⟨by decide, by decide, by decide +kernel⟩, by decide, by decide⟩
theorem q_X4_sumPower_17 : decode M_X4_sumPower.2.1 17 = .ok (.iconst 0, 1) ∧ 17 + 1 = 18 := ⟨by decide +kernel, rfl⟩
theorem q_X4_sumPower_18 : decode M_X4_sumPower.2.1 18 = .ok (.istore 6, 2) ∧ 18 + 2 = 20 := ⟨by decide +kernel, rfl⟩
theorem q_X4_sumPower_20 : decode M_X4_sumPower.2.1 20 = .ok (.iload 6, 2) ∧ 20 + 2 = 22 := ⟨by decide +kernel, rfl⟩
theorem q_X4_sumPower_22 : decode M_X4_sumPower.2.1 22 = .ok (.sipush 10000, 3) ∧ 22 + 3 = 25 := ⟨by decide +kernel, rfl⟩
theorem q_X4_sumPower_25 : decode M_X4_sumPower.2.1 25 = .ok (.if_icmp .ge 81, 3) ∧ 25 + 3 = 28 ∧ ((25 : Nat) : Int) + 81 = ((106 : Nat) : Int) := ⟨by decide +kernel, rfl, rfl⟩
theorem q_X4_sumPower_28 : decode M_X4_sumPower.2.1 28 = .ok (.aload_n 0, 1) ∧ 28 + 1 = 29 := ⟨by decide +kernel, rfl⟩
theorem q_X4_sumPower_29 : decode M_X4_sumPower.2.1 29 = .ok (.getfield 12, 3) ∧ 29 + 3 = 32 := ⟨by decide +kernel, rfl⟩
theorem q_X4_sumPower_32 : decode M_X4_sumPower.2.1 32 = .ok (.getfield 94, 3) ∧ 32 + 3 = 35 := ⟨by decide +kernel, rfl⟩
theorem q_X4_sumPower_35 : decode M_X4_sumPower.2.1 35 = .ok (.ifCond .eq 71, 3) ∧ 35 + 3 = 38 ∧ ((35 : Nat) : Int) + 71 = ((106 : Nat) : Int) := ⟨by decide +kernel, rfl, rfl⟩
theorem q_X4_sumPower_38 : decode M_X4_sumPower.2.1 38 = .ok (.lload_n 1, 1) ∧ 38 + 1 = 39 := ⟨by decide +kernel, rfl⟩
theorem q_X4_sumPower_39 : decode M_X4_sumPower.2.1 39 = .ok (.lconst 0, 1) ∧ 39 + 1 = 40 := ⟨by decide +kernel, rfl⟩
theorem q_X4_sumPower_40 : decode M_X4_sumPower.2.1 40 = .ok (.lcmp, 1) ∧ 40 + 1 = 41 := ⟨by decide +kernel, rfl⟩
theorem q_X4_sumPower_41 : decode M_X4_sumPower.2.1 41 = .ok (.ifCond .ge 18, 3) ∧ 41 + 3 = 44 ∧ ((41 : Nat) : Int) + 18 = ((59 : Nat) : Int) := ⟨by decide +kernel, rfl, rfl⟩
theorem q_X4_sumPower_44 : decode M_X4_sumPower.2.1 44 = .ok (.iload 6, 2) ∧ 44 + 2 = 46 := ⟨by decide +kernel, rfl⟩
theorem q_X4_sumPower_46 : decode M_X4_sumPower.2.1 46 = .ok (.iconst 2, 1) ∧ 46 + 1 = 47 := ⟨by decide +kernel, rfl⟩
theorem q_X4_sumPower_47 : decode M_X4_sumPower.2.1 47 = .ok (.irem, 1) ∧ 47 + 1 = 48 := ⟨by decide +kernel, rfl⟩
theorem q_X4_sumPower_48 : decode M_X4_sumPower.2.1 48 = .ok (.iconst 1, 1) ∧ 48 + 1 = 49 := ⟨by decide +kernel, rfl⟩
theorem q_X4_sumPower_49 : decode M_X4_sumPower.2.1 49 = .ok (.if_icmp .ne 10, 3) ∧ 49 + 3 = 52 ∧ ((49 : Nat) : Int) + 10 = ((59 : Nat) : Int) := ⟨by decide +kernel, rfl, rfl⟩
theorem q_X4_sumPower_52 : decode M_X4_sumPower.2.1 52 = .ok (.aload_n 0, 1) ∧ 52 + 1 = 53 := ⟨by decide +kernel, rfl⟩
theorem q_X4_sumPower_53 : decode M_X4_sumPower.2.1 53 = .ok (.getfield 24, 3) ∧ 53 + 3 = 56 := ⟨by decide +kernel, rfl⟩
theorem q_X4_sumPower_56 : decode M_X4_sumPower.2.1 56 = .ok (.goto 7, 3) ∧ 56 + 3 = 59 ∧ ((56 : Nat) : Int) + 7 = ((63 : Nat) : Int) := ⟨by decide +kernel, rfl, rfl⟩
theorem q_X4_sumPower_59 : decode M_X4_sumPower.2.1 59 = .ok (.aload_n 0, 1) ∧ 59 + 1 = 60 := ⟨by decide +kernel, rfl⟩
theorem q_X4_sumPower_60 : decode M_X4_sumPower.2.1 60 = .ok (.getfield 21, 3) ∧ 60 + 3 = 63 := ⟨by decide +kernel, rfl⟩
theorem q_X4_sumPower_63 : decode M_X4_sumPower.2.1 63 = .ok (.astore 7, 2) ∧ 63 + 2 = 65 := ⟨by decide +kernel, rfl⟩
theorem q_X4_sumPower_65 : decode M_X4_sumPower.2.1 65 = .ok (.aload 7, 2) ∧ 65 + 2 = 67 := ⟨by decide +kernel, rfl⟩
theorem q_X4_sumPower_67 : decode M_X4_sumPower.2.1 67 = .ok (.aload_n 0, 1) ∧ 67 + 1 = 68 := ⟨by decide +kernel, rfl⟩
theorem q_X4_sumPower_68 : decode M_X4_sumPower.2.1 68 = .ok (.getfield 12, 3) ∧ 68 + 3 = 71 := ⟨by decide +kernel, rfl⟩
theorem q_X4_sumPower_71 : decode M_X4_sumPower.2.1 71 = .ok (.invokevirtual 77, 3) ∧ 71 + 3 = 74 := ⟨by decide +kernel, rfl⟩
theorem g_X4_sumPower_71 : en_C M_X4_sumPower M_X1_add 77 1 := ⟨⟨by decide +kernel, by decide +kernel, by decide +kernel⟩, ⟨by decide, by decide, by decide +kernel⟩, by decide, by decide⟩
theorem q_X4_sumPower_74 : decode M_X4_sumPower.2.1 74 = .ok (.aload_n 0, 1) ∧ 74 + 1 = 75 := ⟨by decide +kernel, rfl⟩
theorem q_X4_sumPower_75 : decode M_X4_sumPower.2.1 75 = .ok (.getfield 12, 3) ∧ 75 + 3 = 78 := ⟨by decide +kernel, rfl⟩
theorem q_X4_sumPower_78 : decode M_X4_sumPower.2.1 78 = .ok (.lload_n 1, 1) ∧ 78 + 1 = 79 := ⟨by decide +kernel, rfl⟩
theorem q_X4_sumPower_79 : decode M_X4_sumPower.2.1 79 = .ok (.invokestatic 99, 3) ∧ 79 + 3 = 82 := ⟨by decide +kernel, rfl⟩
theorem a_RX4_99 : Cond.methodLink RX4 99 Lib.MathLoose.abs_long.x ∈ en_tbl := by decide +kernel
theorem q_X4_sumPower_82 : decode M_X4_sumPower.2.1 82 = .ok (.invokevirtual 104, 3) ∧ 82 + 3 = 85 := ⟨by decide +kernel, rfl⟩
theorem g_X4_sumPower_82 : en_C M_X4_sumPower M_X1_multiplySmall 104 1 := ⟨⟨by decide +kernel, by decide +kernel, by decide +kernel⟩, ⟨by decide, by decide, by decide +kernel⟩, by decide, by decide⟩
theorem q_X4_sumPower_85 : decode M_X4_sumPower.2.1 85 = .ok (.aload_n 0, 1) ∧ 85 + 1 = 86 := ⟨by decide +kernel, rfl⟩
theorem q_X4_sumPower_86 : decode M_X4_sumPower.2.1 86 = .ok (.getfield 12, 3) ∧ 86 + 3 = 89 := ⟨by decide +kernel, rfl⟩
theorem q_X4_sumPower_89 : decode M_X4_sumPower.2.1 89 = .ok (.lload_n 3, 1) ∧ 89 + 1 = 90 := ⟨by decide +kernel, rfl⟩
theorem q_X4_sumPower_90 : decode M_X4_sumPower.2.1 90 = .ok (.iload 6, 2) ∧ 90 + 2 = 92 := ⟨by decide +kernel, rfl⟩
theorem q_X4_sumPower_92 : decode M_X4_sumPower.2.1 92 = .ok (.iconst 1, 1) ∧ 92 + 1 = 93 := ⟨by decide +kernel, rfl⟩
theorem q_X4_sumPower_93 : decode M_X4_sumPower.2.1 93 = .ok (.iadd, 1) ∧ 93 + 1 = 94 := ⟨by decide +kernel, rfl⟩
theorem q_X4_sumPower_94 : decode M_X4_sumPower.2.1 94 = .ok (.i2l, 1) ∧ 94 + 1 = 95 := ⟨by decide +kernel, rfl⟩
theorem q_X4_sumPower_95 : decode M_X4_sumPower.2.1 95 = .ok (.lmul, 1) ∧ 95 + 1 = 96 := ⟨by decide +kernel, rfl⟩
theorem q_X4_sumPower_96 : decode M_X4_sumPower.2.1 96 = .ok (.invokevirtual 90, 3) ∧ 96 + 3 = 99 := ⟨by decide +kernel, rfl⟩
theorem g_X4_sumPower_96 : en_C M_X4_sumPower M_X1_divideSmall 90 1 := ⟨⟨by decide +kernel, by decide +kernel, by decide +kernel⟩, ⟨by decide, by decide, by decide +kernel⟩, by decide, by decide⟩
theorem q_X4_sumPower_99 : decode M_X4_sumPower.2.1 99 = .ok (.pop2, 1) ∧ 99 + 1 = 100 := ⟨by decide +kernel, rfl⟩
theorem q_X4_sumPower_100 : decode M_X4_sumPower.2.1 100 = .ok (.iinc 6 1, 3) ∧ 100 + 3 = 103 := ⟨by decide +kernel, rfl⟩
theorem q_X4_sumPower_103 : decode M_X4_sumPower.2.1 103 = .ok (.goto (-83), 3) ∧ 103 + 3 = 106 ∧ ((103 : Nat) : Int) + (-83) = ((20 : Nat) : Int) := ⟨by decide +kernel, rfl, rfl⟩
theorem q_X4_sumPower_106 : decode M_X4_sumPower.2.1 106 = .ok (.return_, 1) ∧ 106 + 1 = 107 := ⟨by decide +kernel, rfl⟩
theorem q_X5_init_0 : decode M_X5_init.2.1 0 = .ok (.aload_n 0, 1) ∧ 0 + 1 = 1 := ⟨by decide +kernel, rfl⟩
theorem q_X5_init_1 : decode M_X5_init.2.1 1 = .ok (.invokespecial 1, 3) ∧ 1 + 3 = 4 := ⟨by decide +kernel, rfl⟩
theorem o_RX5_1 : Cond.methodLink RX5 1 Lib.objectInit ∈ en_tbl := by decide +kernel
theorem q_X5_init_4 : decode M_X5_init.2.1 4 = .ok (.aload_n 0, 1) ∧ 4 + 1 = 5 := ⟨by decide +kernel, rfl⟩
theorem q_X5_init_5 : decode M_X5_init.2.1 5 = .ok (.new 7, 3) ∧ 5 + 3 = 8 := ⟨by decide +kernel, rfl⟩
theorem n_RX5_7 : en_N RX5 7 1 3 [.int 0, .int 0, .null] := ⟨RX1, TX1, tyX1, rfl, by decide +kernel, by decide +kernel, by decide +kernel, by decide +kernel, tyX1_ok, fun j hj => by match j, hj with | 0, _ => rfl | 1, _ => rfl | 2, _ => rfl | j + 3, h => omega⟩
theorem q_X5_init_8 : decode M_X5_init.2.1 8 = .ok (.dup, 1) ∧ 8 + 1 = 9 := ⟨by decide +kernel, rfl⟩
theorem q_X5_init_9 : decode M_X5_init.2.1 9 = .ok (.invokespecial 9, 3) ∧ 9 + 3 = 12 := ⟨by decide +kernel, rfl⟩
theorem g_X5_init_9 : en_CN M_X5_init M_X1_init 9 0 "EnclosedDigits" := ⟨⟨by decide +kernel, by decide +kernel, by decide +kernel⟩, ⟨by decide, by decide, by decide +kernel⟩, by decide, by decide⟩
theorem q_X5_init_12 : decode M_X5_init.2.1 12 = .ok (.putfield 10, 3) ∧ 12 + 3 = 15 := ⟨by decide +kernel, rfl⟩
theorem p_RX5_10 : en_Fp RX5 10 5 7 true (.object "EnclosedDigits$Big") := ⟨RX5, TX5, 11, tyX5, rfl, by decide, rfl, by decide +kernel, by decide +kernel, tyX5_ok, nmX5, rfl, by decide +kernel⟩
theorem q_X5_init_15 : decode M_X5_init.2.1 15 = .ok (.aload_n 0, 1) ∧ 15 + 1 = 16 := ⟨by decide +kernel, rfl⟩
theorem q_X5_init_16 : decode M_X5_init.2.1 16 = .ok (.new 7, 3) ∧ 16 + 3 = 19 := ⟨by decide +kernel, rfl⟩
theorem q_X5_init_19 : decode M_X5_init.2.1 19 = .ok (.dup, 1) ∧ 19 + 1 = 20 := ⟨by decide +kernel, rfl⟩
theorem q_X5_init_20 : decode M_X5_init.2.1 20 = .ok (.invokespecial 9, 3) ∧ 20 + 3 = 23 := ⟨by decide +kernel, rfl⟩
theorem g_X5_init_20 : en_CN M_X5_init M_X1_init 9 0 "EnclosedDigits" := ⟨⟨by decide +kernel, by decide +kernel, by decide +kernel⟩, ⟨by decide, by decide, by decide +kernel⟩, by decide, by decide⟩
theorem q_X5_init_23 : decode M_X5_init.2.1 23 = .ok (.putfield 16, 3) ∧ 23 + 3 = 26 := ⟨by decide +kernel, rfl⟩
theorem p_RX5_16 : en_Fp RX5 16 5 8 true (.object "EnclosedDigits$Big") := ⟨RX5, TX5, 11, tyX5, rfl, by decide, rfl, by decide +kernel, by decide +kernel, tyX5_ok, nmX5, rfl, by decide +kernel⟩
theorem q_X5_init_26 : decode M_X5_init.2.1 26 = .ok (.aload_n 0, 1) ∧ 26 + 1 = 27 := ⟨by decide +kernel, rfl⟩
theorem q_X5_init_27 : decode M_X5_init.2.1 27 = .ok (.new 7, 3) ∧ 27 + 3 = 30 := ⟨by decide +kernel, rfl⟩
theorem q_X5_init_30 : decode M_X5_init.2.1 30 = .ok (.dup, 1) ∧ 30 + 1 = 31 := ⟨by decide +kernel, rfl⟩
theorem q_X5_init_31 : decode M_X5_init.2.1 31 = .ok (.invokespecial 9, 3) ∧ 31 + 3 = 34 := ⟨by decide +kernel, rfl⟩
theorem g_X5_init_31 : en_CN M_X5_init M_X1_init 9 0 "EnclosedDigits" := ⟨⟨by decide +kernel, by decide +kernel, by decide +kernel⟩, ⟨by decide, by decide, by decide +kernel⟩, by decide, by decide⟩
theorem q_X5_init_34 : decode M_X5_init.2.1 34 = .ok (.putfield 19, 3) ∧ 34 + 3 = 37 := ⟨by decide +kernel, rfl⟩
theorem p_RX5_19 : en_Fp RX5 19 5 10 true (.object "EnclosedDigits$Big") := ⟨RX5, TX5, 11, tyX5, rfl, by decide, rfl, by decide +kernel, by decide +kernel, tyX5_ok, nmX5, rfl, by decide +kernel⟩
theorem q_X5_init_37 : decode M_X5_init.2.1 37 = .ok (.return_, 1) ∧ 37 + 1 = 38 := ⟨by decide +kernel, rfl⟩
theorem q_X5_become_0 : decode M_X5_become.2.1 0 = .ok (.aload_n 0, 1) ∧ 0 + 1 = 1 := ⟨by decide +kernel, rfl⟩
theorem q_X5_become_1 : decode M_X5_become.2.1 1 = .ok (.iload_n 1, 1) ∧ 1 + 1 = 2 := ⟨by decide +kernel, rfl⟩
theorem q_X5_become_2 : decode M_X5_become.2.1 2 = .ok (.putfield 22, 3) ∧ 2 + 3 = 5 := ⟨by decide +kernel, rfl⟩
theorem p_RX5_22 : en_Fp RX5 22 5 0 false .int := ⟨RX5, TX5, 11, tyX5, rfl, by decide, rfl, by decide +kernel, by decide +kernel, tyX5_ok, nmX5, rfl, by decide +kernel⟩
theorem q_X5_become_5 : decode M_X5_become.2.1 5 = .ok (.aload_n 0, 1) ∧ 5 + 1 = 6 := ⟨by decide +kernel, rfl⟩
theorem q_X5_become_6 : decode M_X5_become.2.1 6 = .ok (.lload_n 2, 1) ∧ 6 + 1 = 7 := ⟨by decide +kernel, rfl⟩
theorem q_X5_become_7 : decode M_X5_become.2.1 7 = .ok (.putfield 26, 3) ∧ 7 + 3 = 10 := ⟨by decide +kernel, rfl⟩
theorem p_RX5_26 : en_Fp RX5 26 5 1 false .long := ⟨RX5, TX5, 11, tyX5, rfl, by decide, rfl, by decide +kernel, by decide +kernel, tyX5_ok, nmX5, rfl, by decide +kernel⟩
theorem q_X5_become_10 : decode M_X5_become.2.1 10 = .ok (.aload_n 0, 1) ∧ 10 + 1 = 11 := ⟨by decide +kernel, rfl⟩
theorem q_X5_become_11 : decode M_X5_become.2.1 11 = .ok (.lload 4, 2) ∧ 11 + 2 = 13 := ⟨by decide +kernel, rfl⟩
theorem q_X5_become_13 : decode M_X5_become.2.1 13 = .ok (.putfield 30, 3) ∧ 13 + 3 = 16 := ⟨by decide +kernel, rfl⟩
theorem p_RX5_30 : en_Fp RX5 30 5 2 false .long := ⟨RX5, TX5, 11, tyX5, rfl, by decide, rfl, by decide +kernel, by decide +kernel, tyX5_ok, nmX5, rfl, by decide +kernel⟩
theorem q_X5_become_16 : decode M_X5_become.2.1 16 = .ok (.aload_n 0, 1) ∧ 16 + 1 = 17 := ⟨by decide +kernel, rfl⟩
theorem q_X5_become_17 : decode M_X5_become.2.1 17 = .ok (.iconst 0, 1) ∧ 17 + 1 = 18 := ⟨by decide +kernel, rfl⟩
theorem q_X5_become_18 : decode M_X5_become.2.1 18 = .ok (.putfield 33, 3) ∧ 18 + 3 = 21 := ⟨by decide +kernel, rfl⟩
theorem p_RX5_33 : en_Fp RX5 33 5 5 false .int := ⟨RX5, TX5, 11, tyX5, rfl, by decide, rfl, by decide +kernel, by decide +kernel, tyX5_ok, nmX5, rfl, by decide +kernel⟩
theorem q_X5_become_21 : decode M_X5_become.2.1 21 = .ok (.aload_n 0, 1) ∧ 21 + 1 = 22 := ⟨by decide +kernel, rfl⟩
theorem q_X5_become_22 : decode M_X5_become.2.1 22 = .ok (.iconst 0, 1) ∧ 22 + 1 = 23 := ⟨by decide +kernel, rfl⟩
theorem q_X5_become_23 : decode M_X5_become.2.1 23 = .ok (.putfield 36, 3) ∧ 23 + 3 = 26 := ⟨by decide +kernel, rfl⟩
theorem p_RX5_36 : en_Fp RX5 36 5 9 false .int := ⟨RX5, TX5, 11, tyX5, rfl, by decide, rfl, by decide +kernel, by decide +kernel, tyX5_ok, nmX5, rfl, by decide +kernel⟩
theorem q_X5_become_26 : decode M_X5_become.2.1 26 = .ok (.return_, 1) ∧ 26 + 1 = 27 := ⟨by decide +kernel, rfl⟩
theorem q_X5_stemFrom_0 : decode M_X5_stemFrom.2.1 0 = .ok (.aload_n 0, 1) ∧ 0 + 1 = 1 := ⟨by decide +kernel, rfl⟩
theorem q_X5_stemFrom_1 : decode M_X5_stemFrom.2.1 1 = .ok (.iload_n 1, 1) ∧ 1 + 1 = 2 := ⟨by decide +kernel, rfl⟩
theorem q_X5_stemFrom_2 : decode M_X5_stemFrom.2.1 2 = .ok (.putfield 39, 3) ∧ 2 + 3 = 5 := ⟨by decide +kernel, rfl⟩
theorem p_RX5_39 : en_Fp RX5 39 5 3 false .int := ⟨RX5, TX5, 11, tyX5, rfl, by decide, rfl, by decide +kernel, by decide +kernel, tyX5_ok, nmX5, rfl, by decide +kernel⟩
theorem q_X5_stemFrom_5 : decode M_X5_stemFrom.2.1 5 = .ok (.aload_n 0, 1) ∧ 5 + 1 = 6 := ⟨by decide +kernel, rfl⟩
theorem q_X5_stemFrom_6 : decode M_X5_stemFrom.2.1 6 = .ok (.iload_n 2, 1) ∧ 6 + 1 = 7 := ⟨by decide +kernel, rfl⟩
theorem q_X5_stemFrom_7 : decode M_X5_stemFrom.2.1 7 = .ok (.putfield 42, 3) ∧ 7 + 3 = 10 := ⟨by decide +kernel, rfl⟩
theorem p_RX5_42 : en_Fp RX5 42 5 4 false .int := ⟨RX5, TX5, 11, tyX5, rfl, by decide, rfl, by decide +kernel, by decide +kernel, tyX5_ok, nmX5, rfl, by decide +kernel⟩
theorem q_X5_stemFrom_10 : decode M_X5_stemFrom.2.1 10 = .ok (.return_, 1) ∧ 10 + 1 = 11 := ⟨by decide +kernel, rfl⟩
