/-! instructions, fields, calls -/
theorem q_X2_init_0 : decode M_X2_init.2.1 0 = .ok (.aload_n 0, 1) ∧ 0 + 1 = 1 := ⟨by decide +kernel, rfl⟩
theorem q_X2_init_1 : decode M_X2_init.2.1 1 = .ok (.invokespecial 3, 3) ∧ 1 + 3 = 4 := ⟨by decide +kernel, rfl⟩
theorem o_RX2_3 : Cond.methodLink RX2 3 Lib.objectInit ∈ en_tbl := by decide +kernel
theorem q_X2_init_4 : decode M_X2_init.2.1 4 = .ok (.aload_n 0, 1) ∧ 4 + 1 = 5 := ⟨by decide +kernel, rfl⟩
theorem q_X2_init_5 : decode M_X2_init.2.1 5 = .ok (.new 9, 3) ∧ 5 + 3 = 8 := ⟨by decide +kernel, rfl⟩
theorem n_RX2_9 : en_N RX2 9 0 5 [.null, .null, .null, .null, .null] := ⟨RX0, TX0, tyX0, rfl, by decide +kernel, by decide +kernel, by decide +kernel, by decide +kernel, tyX0_ok, fun j hj => by match j, hj with | 0, _ => rfl | 1, _ => rfl | 2, _ => rfl | 3, _ => rfl | 4, _ => rfl | j + 5, h => omega⟩
theorem q_X2_init_8 : decode M_X2_init.2.1 8 = .ok (.dup, 1) ∧ 8 + 1 = 9 := ⟨by decide +kernel, rfl⟩
theorem q_X2_init_9 : decode M_X2_init.2.1 9 = .ok (.invokespecial 11, 3) ∧ 9 + 3 = 12 := ⟨by decide +kernel, rfl⟩
theorem g_X2_init_9 : en_CN M_X2_init M_X0_init 11 0 "EnclosedDigits" := ⟨⟨by decide +kernel, by decide +kernel, by decide +kernel⟩, ⟨by decide, by decide, by decide +kernel⟩, by decide, by decide⟩
theorem w_X0_init : Cond.instanceMethod M_X0_init.1 ∈ en_tbl := by decide +kernel
theorem q_X2_init_12 : decode M_X2_init.2.1 12 = .ok (.putfield 12, 3) ∧ 12 + 3 = 15 := ⟨by decide +kernel, rfl⟩
theorem p_RX2_12 : en_Fp RX2 12 2 0 true (.object "EnclosedDigits$Bench") := ⟨RX2, TX2, 7, tyX2, rfl, by decide, rfl, by decide +kernel, by decide +kernel, tyX2_ok, nmX2, rfl, by decide +kernel⟩
theorem q_X2_init_15 : decode M_X2_init.2.1 15 = .ok (.aload_n 0, 1) ∧ 15 + 1 = 16 := ⟨by decide +kernel, rfl⟩
theorem q_X2_init_16 : decode M_X2_init.2.1 16 = .ok (.new 18, 3) ∧ 16 + 3 = 19 := ⟨by decide +kernel, rfl⟩
theorem n_RX2_18 : en_N RX2 18 4 5 [.null, .null, .null, .null, .null] := ⟨RX4, TX4, tyX4, rfl, by decide +kernel, by decide +kernel, by decide +kernel, by decide +kernel, tyX4_ok, fun j hj => by match j, hj with | 0, _ => rfl | 1, _ => rfl | 2, _ => rfl | 3, _ => rfl | 4, _ => rfl | j + 5, h => omega⟩
theorem q_X2_init_19 : decode M_X2_init.2.1 19 = .ok (.dup, 1) ∧ 19 + 1 = 20 := ⟨by decide +kernel, rfl⟩
theorem q_X2_init_20 : decode M_X2_init.2.1 20 = .ok (.invokespecial 20, 3) ∧ 20 + 3 = 23 := ⟨by decide +kernel, rfl⟩
theorem g_X2_init_20 : en_CN M_X2_init M_X4_init 20 0 "EnclosedDigits" := ⟨⟨by decide +kernel, by decide +kernel, by decide +kernel⟩, ⟨by decide, by decide, by decide +kernel⟩, by decide, by decide⟩
theorem w_X4_init : Cond.instanceMethod M_X4_init.1 ∈ en_tbl := by decide +kernel
theorem q_X2_init_23 : decode M_X2_init.2.1 23 = .ok (.putfield 21, 3) ∧ 23 + 3 = 26 := ⟨by decide +kernel, rfl⟩
theorem p_RX2_21 : en_Fp RX2 21 2 1 true (.object "EnclosedDigits$Series") := ⟨RX2, TX2, 7, tyX2, rfl, by decide, rfl, by decide +kernel, by decide +kernel, tyX2_ok, nmX2, rfl, by decide +kernel⟩
theorem q_X2_init_26 : decode M_X2_init.2.1 26 = .ok (.aload_n 0, 1) ∧ 26 + 1 = 27 := ⟨by decide +kernel, rfl⟩
theorem q_X2_init_27 : decode M_X2_init.2.1 27 = .ok (.new 25, 3) ∧ 27 + 3 = 30 := ⟨by decide +kernel, rfl⟩
theorem n_RX2_25 : en_N RX2 25 1 3 [.int 0, .int 0, .null] := ⟨RX1, TX1, tyX1, rfl, by decide +kernel, by decide +kernel, by decide +kernel, by decide +kernel, tyX1_ok, fun j hj => by match j, hj with | 0, _ => rfl | 1, _ => rfl | 2, _ => rfl | j + 3, h => omega⟩
theorem q_X2_init_30 : decode M_X2_init.2.1 30 = .ok (.dup, 1) ∧ 30 + 1 = 31 := ⟨by decide +kernel, rfl⟩
theorem q_X2_init_31 : decode M_X2_init.2.1 31 = .ok (.invokespecial 27, 3) ∧ 31 + 3 = 34 := ⟨by decide +kernel, rfl⟩
theorem g_X2_init_31 : en_CN M_X2_init M_X1_init 27 0 "EnclosedDigits" := ⟨⟨by decide +kernel, by decide +kernel, by decide +kernel⟩, ⟨by decide, by decide, by decide +kernel⟩, by decide, by decide⟩
theorem q_X2_init_34 : decode M_X2_init.2.1 34 = .ok (.putfield 28, 3) ∧ 34 + 3 = 37 := ⟨by decide +kernel, rfl⟩
theorem p_RX2_28 : en_Fp RX2 28 2 2 true (.object "EnclosedDigits$Big") := ⟨RX2, TX2, 7, tyX2, rfl, by decide, rfl, by decide +kernel, by decide +kernel, tyX2_ok, nmX2, rfl, by decide +kernel⟩
theorem q_X2_init_37 : decode M_X2_init.2.1 37 = .ok (.aload_n 0, 1) ∧ 37 + 1 = 38 := ⟨by decide +kernel, rfl⟩
theorem q_X2_init_38 : decode M_X2_init.2.1 38 = .ok (.new 25, 3) ∧ 38 + 3 = 41 := ⟨by decide +kernel, rfl⟩
theorem q_X2_init_41 : decode M_X2_init.2.1 41 = .ok (.dup, 1) ∧ 41 + 1 = 42 := ⟨by decide +kernel, rfl⟩
theorem q_X2_init_42 : decode M_X2_init.2.1 42 = .ok (.invokespecial 27, 3) ∧ 42 + 3 = 45 := ⟨by decide +kernel, rfl⟩
theorem g_X2_init_42 : en_CN M_X2_init M_X1_init 27 0 "EnclosedDigits" := ⟨⟨by decide +kernel, by decide +kernel, by decide +kernel⟩, ⟨by decide, by decide, by decide +kernel⟩, by decide, by decide⟩
theorem q_X2_init_45 : decode M_X2_init.2.1 45 = .ok (.putfield 32, 3) ∧ 45 + 3 = 48 := ⟨by decide +kernel, rfl⟩
theorem p_RX2_32 : en_Fp RX2 32 2 3 true (.object "EnclosedDigits$Big") := ⟨RX2, TX2, 7, tyX2, rfl, by decide, rfl, by decide +kernel, by decide +kernel, tyX2_ok, nmX2, rfl, by decide +kernel⟩
theorem q_X2_init_48 : decode M_X2_init.2.1 48 = .ok (.aload_n 0, 1) ∧ 48 + 1 = 49 := ⟨by decide +kernel, rfl⟩
theorem q_X2_init_49 : decode M_X2_init.2.1 49 = .ok (.new 25, 3) ∧ 49 + 3 = 52 := ⟨by decide +kernel, rfl⟩
theorem q_X2_init_52 : decode M_X2_init.2.1 52 = .ok (.dup, 1) ∧ 52 + 1 = 53 := ⟨by decide +kernel, rfl⟩
theorem q_X2_init_53 : decode M_X2_init.2.1 53 = .ok (.invokespecial 27, 3) ∧ 53 + 3 = 56 := ⟨by decide +kernel, rfl⟩
theorem g_X2_init_53 : en_CN M_X2_init M_X1_init 27 0 "EnclosedDigits" := ⟨⟨by decide +kernel, by decide +kernel, by decide +kernel⟩, ⟨by decide, by decide, by decide +kernel⟩, by decide, by decide⟩
theorem q_X2_init_56 : decode M_X2_init.2.1 56 = .ok (.putfield 35, 3) ∧ 56 + 3 = 59 := ⟨by decide +kernel, rfl⟩
theorem p_RX2_35 : en_Fp RX2 35 2 4 true (.object "EnclosedDigits$Big") := ⟨RX2, TX2, 7, tyX2, rfl, by decide, rfl, by decide +kernel, by decide +kernel, tyX2_ok, nmX2, rfl, by decide +kernel⟩
theorem q_X2_init_59 : decode M_X2_init.2.1 59 = .ok (.aload_n 0, 1) ∧ 59 + 1 = 60 := ⟨by decide +kernel, rfl⟩
theorem q_X2_init_60 : decode M_X2_init.2.1 60 = .ok (.new 25, 3) ∧ 60 + 3 = 63 := ⟨by decide +kernel, rfl⟩
theorem q_X2_init_63 : decode M_X2_init.2.1 63 = .ok (.dup, 1) ∧ 63 + 1 = 64 := ⟨by decide +kernel, rfl⟩
theorem q_X2_init_64 : decode M_X2_init.2.1 64 = .ok (.invokespecial 27, 3) ∧ 64 + 3 = 67 := ⟨by decide +kernel, rfl⟩
theorem g_X2_init_64 : en_CN M_X2_init M_X1_init 27 0 "EnclosedDigits" := ⟨⟨by decide +kernel, by decide +kernel, by decide +kernel⟩, ⟨by decide, by decide, by decide +kernel⟩, by decide, by decide⟩
theorem q_X2_init_67 : decode M_X2_init.2.1 67 = .ok (.putfield 38, 3) ∧ 67 + 3 = 70 := ⟨by decide +kernel, rfl⟩
theorem p_RX2_38 : en_Fp RX2 38 2 5 true (.object "EnclosedDigits$Big") := ⟨RX2, TX2, 7, tyX2, rfl, by decide, rfl, by decide +kernel, by decide +kernel, tyX2_ok, nmX2, rfl, by decide +kernel⟩
theorem q_X2_init_70 : decode M_X2_init.2.1 70 = .ok (.aload_n 0, 1) ∧ 70 + 1 = 71 := ⟨by decide +kernel, rfl⟩
theorem q_X2_init_71 : decode M_X2_init.2.1 71 = .ok (.new 25, 3) ∧ 71 + 3 = 74 := ⟨by decide +kernel, rfl⟩
theorem q_X2_init_74 : decode M_X2_init.2.1 74 = .ok (.dup, 1) ∧ 74 + 1 = 75 := ⟨by decide +kernel, rfl⟩
theorem q_X2_init_75 : decode M_X2_init.2.1 75 = .ok (.invokespecial 27, 3) ∧ 75 + 3 = 78 := ⟨by decide +kernel, rfl⟩
theorem g_X2_init_75 : en_CN M_X2_init M_X1_init 27 0 "EnclosedDigits" := ⟨⟨by decide +kernel, by decide +kernel, by decide +kernel⟩, ⟨by decide, by decide, by decide +kernel⟩, by decide, by decide⟩
theorem q_X2_init_78 : decode M_X2_init.2.1 78 = .ok (.putfield 41, 3) ∧ 78 + 3 = 81 := ⟨by decide +kernel, rfl⟩
theorem p_RX2_41 : en_Fp RX2 41 2 6 true (.object "EnclosedDigits$Big") := ⟨RX2, TX2, 7, tyX2, rfl, by decide, rfl, by decide +kernel, by decide +kernel, tyX2_ok, nmX2, rfl, by decide +kernel⟩
theorem q_X2_init_81 : decode M_X2_init.2.1 81 = .ok (.return_, 1) ∧ 81 + 1 = 82 := ⟨by decide +kernel, rfl⟩
theorem q_X2_enclosed_0 : decode M_X2_enclosed.2.1 0 = .ok (.iload_n 2, 1) ∧ 0 + 1 = 1 := ⟨by decide +kernel, rfl⟩
theorem q_X2_enclosed_1 : decode M_X2_enclosed.2.1 1 = .ok (.ifCond .lt 9, 3) ∧ 1 + 3 = 4 ∧ ((1 : Nat) : Int) + 9 = ((10 : Nat) : Int) := ⟨by decide +kernel, rfl, rfl⟩
theorem q_X2_enclosed_4 : decode M_X2_enclosed.2.1 4 = .ok (.iload_n 2, 1) ∧ 4 + 1 = 5 := ⟨by decide +kernel, rfl⟩
theorem q_X2_enclosed_5 : decode M_X2_enclosed.2.1 5 = .ok (.aload_n 1, 1) ∧ 5 + 1 = 6 := ⟨by decide +kernel, rfl⟩
theorem q_X2_enclosed_6 : decode M_X2_enclosed.2.1 6 = .ok (.arraylength, 1) ∧ 6 + 1 = 7 := ⟨by decide +kernel, rfl⟩
theorem q_X2_enclosed_7 : decode M_X2_enclosed.2.1 7 = .ok (.if_icmp .lt 5, 3) ∧ 7 + 3 = 10 ∧ ((7 : Nat) : Int) + 5 = ((12 : Nat) : Int) := ⟨by decide +kernel, rfl, rfl⟩
theorem q_X2_enclosed_10 : decode M_X2_enclosed.2.1 10 = .ok (.aconst_null, 1) ∧ 10 + 1 = 11 := ⟨by decide +kernel, rfl⟩
theorem q_X2_enclosed_11 : decode M_X2_enclosed.2.1 11 = .ok (.areturn, 1) ∧ 11 + 1 = 12 := ⟨by decide +kernel, rfl⟩
theorem q_X2_enclosed_12 : decode M_X2_enclosed.2.1 12 = .ok (.aload_n 1, 1) ∧ 12 + 1 = 13 := ⟨by decide +kernel, rfl⟩
theorem q_X2_enclosed_13 : decode M_X2_enclosed.2.1 13 = .ok (.iload_n 2, 1) ∧ 13 + 1 = 14 := ⟨by decide +kernel, rfl⟩
theorem q_X2_enclosed_14 : decode M_X2_enclosed.2.1 14 = .ok (.iload_n 3, 1) ∧ 14 + 1 = 15 := ⟨by decide +kernel, rfl⟩
theorem q_X2_enclosed_15 : decode M_X2_enclosed.2.1 15 = .ok (.invokestatic 44, 3) ∧ 15 + 3 = 18 := ⟨by decide +kernel, rfl⟩
theorem g_X2_enclosed_15 : en_C M_X2_enclosed M_X2_neededFor 44 3 := ⟨⟨by decide +kernel, by decide +kernel, by decide +kernel⟩, ⟨by decide, by decide, by decide +kernel⟩, by decide, by decide⟩
theorem w_X2_neededFor : Cond.static M_X2_neededFor.1 ∈ en_tbl := by decide +kernel
theorem q_X2_enclosed_18 : decode M_X2_enclosed.2.1 18 = .ok (.lstore 4, 2) ∧ 18 + 2 = 20 := ⟨by decide +kernel, rfl⟩
theorem q_X2_enclosed_20 : decode M_X2_enclosed.2.1 20 = .ok (.iconst 0, 1) ∧ 20 + 1 = 21 := ⟨by decide +kernel, rfl⟩
theorem q_X2_enclosed_21 : decode M_X2_enclosed.2.1 21 = .ok (.istore 6, 2) ∧ 21 + 2 = 23 := ⟨by decide +kernel, rfl⟩
theorem q_X2_enclosed_23 : decode M_X2_enclosed.2.1 23 = .ok (.iload 6, 2) ∧ 23 + 2 = 25 := ⟨by decide +kernel, rfl⟩
theorem q_X2_enclosed_25 : decode M_X2_enclosed.2.1 25 = .ok (.iload_n 2, 1) ∧ 25 + 1 = 26 := ⟨by decide +kernel, rfl⟩
theorem q_X2_enclosed_26 : decode M_X2_enclosed.2.1 26 = .ok (.if_icmp .gt 289, 3) ∧ 26 + 3 = 29 ∧ ((26 : Nat) : Int) + 289 = ((315 : Nat) : Int) := ⟨by decide +kernel, rfl, rfl⟩
theorem q_X2_enclosed_29 : decode M_X2_enclosed.2.1 29 = .ok (.aload_n 1, 1) ∧ 29 + 1 = 30 := ⟨by decide +kernel, rfl⟩
theorem q_X2_enclosed_30 : decode M_X2_enclosed.2.1 30 = .ok (.iload 6, 2) ∧ 30 + 2 = 32 := ⟨by decide +kernel, rfl⟩
theorem q_X2_enclosed_32 : decode M_X2_enclosed.2.1 32 = .ok (.aaload, 1) ∧ 32 + 1 = 33 := ⟨by decide +kernel, rfl⟩
theorem q_X2_enclosed_33 : decode M_X2_enclosed.2.1 33 = .ok (.astore 7, 2) ∧ 33 + 2 = 35 := ⟨by decide +kernel, rfl⟩
theorem q_X2_enclosed_35 : decode M_X2_enclosed.2.1 35 = .ok (.aload 7, 2) ∧ 35 + 2 = 37 := ⟨by decide +kernel, rfl⟩
theorem q_X2_enclosed_37 : decode M_X2_enclosed.2.1 37 = .ok (.ifnull 272, 3) ∧ 37 + 3 = 40 ∧ ((37 : Nat) : Int) + 272 = ((309 : Nat) : Int) := ⟨by decide +kernel, rfl, rfl⟩
theorem q_X2_enclosed_40 : decode M_X2_enclosed.2.1 40 = .ok (.lload 4, 2) ∧ 40 + 2 = 42 := ⟨by decide +kernel, rfl⟩
theorem q_X2_enclosed_42 : decode M_X2_enclosed.2.1 42 = .ok (.iload 6, 2) ∧ 42 + 2 = 44 := ⟨by decide +kernel, rfl⟩
theorem q_X2_enclosed_44 : decode M_X2_enclosed.2.1 44 = .ok (.invokestatic 48, 3) ∧ 44 + 3 = 47 := ⟨by decide +kernel, rfl⟩
theorem g_X2_enclosed_44 : en_C M_X2_enclosed M_X2_isMarked 48 2 := ⟨⟨by decide +kernel, by decide +kernel, by decide +kernel⟩, ⟨by decide, by decide, by decide +kernel⟩, by decide, by decide⟩
theorem w_X2_isMarked : Cond.static M_X2_isMarked.1 ∈ en_tbl := by decide +kernel
theorem q_X2_enclosed_47 : decode M_X2_enclosed.2.1 47 = .ok (.ifCond .ne 6, 3) ∧ 47 + 3 = 50 ∧ ((47 : Nat) : Int) + 6 = ((53 : Nat) : Int) := ⟨by decide +kernel, rfl, rfl⟩
theorem q_X2_enclosed_50 : decode M_X2_enclosed.2.1 50 = .ok (.goto 259, 3) ∧ 50 + 3 = 53 ∧ ((50 : Nat) : Int) + 259 = ((309 : Nat) : Int) := ⟨by decide +kernel, rfl, rfl⟩
theorem q_X2_enclosed_53 : decode M_X2_enclosed.2.1 53 = .ok (.aload_n 1, 1) ∧ 53 + 1 = 54 := ⟨by decide +kernel, rfl⟩
theorem q_X2_enclosed_54 : decode M_X2_enclosed.2.1 54 = .ok (.aload 7, 2) ∧ 54 + 2 = 56 := ⟨by decide +kernel, rfl⟩
theorem q_X2_enclosed_56 : decode M_X2_enclosed.2.1 56 = .ok (.getfield 52, 3) ∧ 56 + 3 = 59 := ⟨by decide +kernel, rfl⟩
theorem f_RX2_52 : en_F RX2 52 5 3 := ⟨RX5, TX5, 11, rfl, by decide, rfl, by decide +kernel, by decide +kernel⟩
theorem q_X2_enclosed_59 : decode M_X2_enclosed.2.1 59 = .ok (.iload 6, 2) ∧ 59 + 2 = 61 := ⟨by decide +kernel, rfl⟩
theorem q_X2_enclosed_61 : decode M_X2_enclosed.2.1 61 = .ok (.invokestatic 58, 3) ∧ 61 + 3 = 64 := ⟨by decide +kernel, rfl⟩
theorem g_X2_enclosed_61 : en_C M_X2_enclosed M_X2_partOf 58 3 := ⟨⟨by decide +kernel, by decide +kernel, by decide +kernel⟩, ⟨by decide, by decide, by decide +kernel⟩, by decide, by decide⟩
theorem w_X2_partOf : Cond.static M_X2_partOf.1 ∈ en_tbl := by decide +kernel
theorem q_X2_enclosed_64 : decode M_X2_enclosed.2.1 64 = .ok (.astore 8, 2) ∧ 64 + 2 = 66 := ⟨by decide +kernel, rfl⟩
theorem q_X2_enclosed_66 : decode M_X2_enclosed.2.1 66 = .ok (.aload_n 1, 1) ∧ 66 + 1 = 67 := ⟨by decide +kernel, rfl⟩
theorem q_X2_enclosed_67 : decode M_X2_enclosed.2.1 67 = .ok (.aload 7, 2) ∧ 67 + 2 = 69 := ⟨by decide +kernel, rfl⟩
theorem q_X2_enclosed_69 : decode M_X2_enclosed.2.1 69 = .ok (.getfield 62, 3) ∧ 69 + 3 = 72 := ⟨by decide +kernel, rfl⟩
theorem f_RX2_62 : en_F RX2 62 5 4 := ⟨RX5, TX5, 11, rfl, by decide, rfl, by decide +kernel, by decide +kernel⟩
theorem q_X2_enclosed_72 : decode M_X2_enclosed.2.1 72 = .ok (.iload 6, 2) ∧ 72 + 2 = 74 := ⟨by decide +kernel, rfl⟩
theorem q_X2_enclosed_74 : decode M_X2_enclosed.2.1 74 = .ok (.invokestatic 58, 3) ∧ 74 + 3 = 77 := ⟨by decide +kernel, rfl⟩
theorem g_X2_enclosed_74 : en_C M_X2_enclosed M_X2_partOf 58 3 := ⟨⟨by decide +kernel, by decide +kernel, by decide +kernel⟩, ⟨by decide, by decide, by decide +kernel⟩, by decide, by decide⟩
theorem q_X2_enclosed_77 : decode M_X2_enclosed.2.1 77 = .ok (.astore 9, 2) ∧ 77 + 2 = 79 := ⟨by decide +kernel, rfl⟩
theorem q_X2_enclosed_79 : decode M_X2_enclosed.2.1 79 = .ok (.aload 7, 2) ∧ 79 + 2 = 81 := ⟨by decide +kernel, rfl⟩
theorem q_X2_enclosed_81 : decode M_X2_enclosed.2.1 81 = .ok (.iload_n 3, 1) ∧ 81 + 1 = 82 := ⟨by decide +kernel, rfl⟩
theorem q_X2_enclosed_82 : decode M_X2_enclosed.2.1 82 = .ok (.putfield 65, 3) ∧ 82 + 3 = 85 := ⟨by decide +kernel, rfl⟩
theorem p_RX2_65 : en_Fp RX2 65 5 5 false .int := ⟨RX5, TX5, 11, tyX5, rfl, by decide, rfl, by decide +kernel, by decide +kernel, tyX5_ok, nmX5, rfl, by decide +kernel⟩
theorem q_X2_enclosed_85 : decode M_X2_enclosed.2.1 85 = .ok (.aload 7, 2) ∧ 85 + 2 = 87 := ⟨by decide +kernel, rfl⟩
theorem q_X2_enclosed_87 : decode M_X2_enclosed.2.1 87 = .ok (.aload 7, 2) ∧ 87 + 2 = 89 := ⟨by decide +kernel, rfl⟩
theorem q_X2_enclosed_89 : decode M_X2_enclosed.2.1 89 = .ok (.getfield 68, 3) ∧ 89 + 3 = 92 := ⟨by decide +kernel, rfl⟩
theorem f_RX2_68 : en_F RX2 68 5 0 := ⟨RX5, TX5, 11, rfl, by decide, rfl, by decide +kernel, by decide +kernel⟩
theorem q_X2_enclosed_92 : decode M_X2_enclosed.2.1 92 = .ok (.iconst 5, 1) ∧ 92 + 1 = 93 := ⟨by decide +kernel, rfl⟩
theorem q_X2_enclosed_93 : decode M_X2_enclosed.2.1 93 = .ok (.if_icmp .lt 23, 3) ∧ 93 + 3 = 96 ∧ ((93 : Nat) : Int) + 23 = ((116 : Nat) : Int) := ⟨by decide +kernel, rfl, rfl⟩
theorem q_X2_enclosed_96 : decode M_X2_enclosed.2.1 96 = .ok (.aload 8, 2) ∧ 96 + 2 = 98 := ⟨by decide +kernel, rfl⟩
theorem q_X2_enclosed_98 : decode M_X2_enclosed.2.1 98 = .ok (.invokestatic 71, 3) ∧ 98 + 3 = 101 := ⟨by decide +kernel, rfl⟩
theorem g_X2_enclosed_98 : en_C M_X2_enclosed M_X2_isOpen 71 1 := ⟨⟨by decide +kernel, by decide +kernel, by decide +kernel⟩, ⟨by decide, by decide, by decide +kernel⟩, by decide, by decide⟩
theorem w_X2_isOpen : Cond.static M_X2_isOpen.1 ∈ en_tbl := by decide +kernel
theorem q_X2_enclosed_101 : decode M_X2_enclosed.2.1 101 = .ok (.ifCond .ne 11, 3) ∧ 101 + 3 = 104 ∧ ((101 : Nat) : Int) + 11 = ((112 : Nat) : Int) := ⟨by decide +kernel, rfl, rfl⟩
theorem q_X2_enclosed_104 : decode M_X2_enclosed.2.1 104 = .ok (.aload 9, 2) ∧ 104 + 2 = 106 := ⟨by decide +kernel, rfl⟩
theorem q_X2_enclosed_106 : decode M_X2_enclosed.2.1 106 = .ok (.invokestatic 71, 3) ∧ 106 + 3 = 109 := ⟨by decide +kernel, rfl⟩
theorem g_X2_enclosed_106 : en_C M_X2_enclosed M_X2_isOpen 71 1 := ⟨⟨by decide +kernel, by decide +kernel, by decide +kernel⟩, ⟨by decide, by decide, by decide +kernel⟩, by decide, by decide⟩
theorem q_X2_enclosed_109 : decode M_X2_enclosed.2.1 109 = .ok (.ifCond .eq 7, 3) ∧ 109 + 3 = 112 ∧ ((109 : Nat) : Int) + 7 = ((116 : Nat) : Int) := ⟨by decide +kernel, rfl, rfl⟩
theorem q_X2_enclosed_112 : decode M_X2_enclosed.2.1 112 = .ok (.iconst 1, 1) ∧ 112 + 1 = 113 := ⟨by decide +kernel, rfl⟩
theorem q_X2_enclosed_113 : decode M_X2_enclosed.2.1 113 = .ok (.goto 4, 3) ∧ 113 + 3 = 116 ∧ ((113 : Nat) : Int) + 4 = ((117 : Nat) : Int) := ⟨by decide +kernel, rfl, rfl⟩
theorem q_X2_enclosed_116 : decode M_X2_enclosed.2.1 116 = .ok (.iconst 0, 1) ∧ 116 + 1 = 117 := ⟨by decide +kernel, rfl⟩
theorem q_X2_enclosed_117 : decode M_X2_enclosed.2.1 117 = .ok (.putfield 75, 3) ∧ 117 + 3 = 120 := ⟨by decide +kernel, rfl⟩
theorem p_RX2_75 : en_Fp RX2 75 5 6 false .boolean := ⟨RX5, TX5, 11, tyX5, rfl, by decide, rfl, by decide +kernel, by decide +kernel, tyX5_ok, nmX5, rfl, by decide +kernel⟩
theorem q_X2_enclosed_120 : decode M_X2_enclosed.2.1 120 = .ok (.aload 7, 2) ∧ 120 + 2 = 122 := ⟨by decide +kernel, rfl⟩
theorem q_X2_enclosed_122 : decode M_X2_enclosed.2.1 122 = .ok (.getfield 75, 3) ∧ 122 + 3 = 125 := ⟨by decide +kernel, rfl⟩
theorem f_RX2_75 : en_F RX2 75 5 6 := ⟨RX5, TX5, 11, rfl, by decide, rfl, by decide +kernel, by decide +kernel⟩
theorem q_X2_enclosed_125 : decode M_X2_enclosed.2.1 125 = .ok (.ifCond .eq 6, 3) ∧ 125 + 3 = 128 ∧ ((125 : Nat) : Int) + 6 = ((131 : Nat) : Int) := ⟨by decide +kernel, rfl, rfl⟩
theorem q_X2_enclosed_128 : decode M_X2_enclosed.2.1 128 = .ok (.goto 181, 3) ∧ 128 + 3 = 131 ∧ ((128 : Nat) : Int) + 181 = ((309 : Nat) : Int) := ⟨by decide +kernel, rfl, rfl⟩
theorem q_X2_enclosed_131 : decode M_X2_enclosed.2.1 131 = .ok (.aload 7, 2) ∧ 131 + 2 = 133 := ⟨by decide +kernel, rfl⟩
theorem q_X2_enclosed_133 : decode M_X2_enclosed.2.1 133 = .ok (.getfield 68, 3) ∧ 133 + 3 = 136 := ⟨by decide +kernel, rfl⟩
theorem q_X2_enclosed_136 : decode M_X2_enclosed.2.1 136 = .ok (.tableswitch 122 0 7 #[48, 57, 67, 67, 67, 86, 98, 110], 48) := by decide +kernel
theorem q_X2_enclosed_184 : decode M_X2_enclosed.2.1 184 = .ok (.aload 7, 2) ∧ 184 + 2 = 186 := ⟨by decide +kernel, rfl⟩
theorem q_X2_enclosed_186 : decode M_X2_enclosed.2.1 186 = .ok (.iload_n 3, 1) ∧ 186 + 1 = 187 := ⟨by decide +kernel, rfl⟩
theorem q_X2_enclosed_187 : decode M_X2_enclosed.2.1 187 = .ok (.invokestatic 79, 3) ∧ 187 + 3 = 190 := ⟨by decide +kernel, rfl⟩
theorem g_X2_enclosed_187 : en_C M_X2_enclosed M_X2_fillWhole 79 2 := ⟨⟨by decide +kernel, by decide +kernel, by decide +kernel⟩, ⟨by decide, by decide, by decide +kernel⟩, by decide, by decide⟩
theorem w_X2_fillWhole : Cond.static M_X2_fillWhole.1 ∈ en_tbl := by decide +kernel
theorem q_X2_enclosed_190 : decode M_X2_enclosed.2.1 190 = .ok (.goto 79, 3) ∧ 190 + 3 = 193 ∧ ((190 : Nat) : Int) + 79 = ((269 : Nat) : Int) := ⟨by decide +kernel, rfl, rfl⟩
theorem q_X2_enclosed_193 : decode M_X2_enclosed.2.1 193 = .ok (.aload_n 0, 1) ∧ 193 + 1 = 194 := ⟨by decide +kernel, rfl⟩
theorem q_X2_enclosed_194 : decode M_X2_enclosed.2.1 194 = .ok (.aload 7, 2) ∧ 194 + 2 = 196 := ⟨by decide +kernel, rfl⟩
theorem q_X2_enclosed_196 : decode M_X2_enclosed.2.1 196 = .ok (.iload_n 3, 1) ∧ 196 + 1 = 197 := ⟨by decide +kernel, rfl⟩
theorem q_X2_enclosed_197 : decode M_X2_enclosed.2.1 197 = .ok (.invokevirtual 83, 3) ∧ 197 + 3 = 200 := ⟨by decide +kernel, rfl⟩
theorem g_X2_enclosed_197 : en_C M_X2_enclosed M_X2_fillRatio 83 2 := ⟨⟨by decide +kernel, by decide +kernel, by decide +kernel⟩, ⟨by decide, by decide, by decide +kernel⟩, by decide, by decide⟩
theorem w_X2_fillRatio : Cond.instanceMethod M_X2_fillRatio.1 ∈ en_tbl ∧ Cond.selects M_X2_fillRatio.1.cls M_X2_fillRatio.1 M_X2_fillRatio.1 ∈ en_tbl := ⟨by decide +kernel, by decide +kernel⟩
theorem q_X2_enclosed_200 : decode M_X2_enclosed.2.1 200 = .ok (.goto 69, 3) ∧ 200 + 3 = 203 ∧ ((200 : Nat) : Int) + 69 = ((269 : Nat) : Int) := ⟨by decide +kernel, rfl, rfl⟩
theorem q_X2_enclosed_203 : decode M_X2_enclosed.2.1 203 = .ok (.aload_n 0, 1) ∧ 203 + 1 = 204 := ⟨by decide +kernel, rfl⟩
theorem q_X2_enclosed_204 : decode M_X2_enclosed.2.1 204 = .ok (.getfield 21, 3) ∧ 204 + 3 = 207 := ⟨by decide +kernel, rfl⟩
theorem f_RX2_21 : en_F RX2 21 2 1 := ⟨RX2, TX2, 7, rfl, by decide, rfl, by decide +kernel, by decide +kernel⟩
theorem q_X2_enclosed_207 : decode M_X2_enclosed.2.1 207 = .ok (.aload 7, 2) ∧ 207 + 2 = 209 := ⟨by decide +kernel, rfl⟩
theorem q_X2_enclosed_209 : decode M_X2_enclosed.2.1 209 = .ok (.iload_n 3, 1) ∧ 209 + 1 = 210 := ⟨by decide +kernel, rfl⟩
theorem q_X2_enclosed_210 : decode M_X2_enclosed.2.1 210 = .ok (.invokevirtual 86, 3) ∧ 210 + 3 = 213 := ⟨by decide +kernel, rfl⟩
theorem g_X2_enclosed_210 : en_C M_X2_enclosed M_X4_refine 86 2 := ⟨⟨by decide +kernel, by decide +kernel, by decide +kernel⟩, ⟨by decide, by decide, by decide +kernel⟩, by decide, by decide⟩
theorem w_X4_refine : Cond.instanceMethod M_X4_refine.1 ∈ en_tbl ∧ Cond.selects M_X4_refine.1.cls M_X4_refine.1 M_X4_refine.1 ∈ en_tbl := ⟨by decide +kernel, by decide +kernel⟩
theorem q_X2_enclosed_213 : decode M_X2_enclosed.2.1 213 = .ok (.aload 7, 2) ∧ 213 + 2 = 215 := ⟨by decide +kernel, rfl⟩
theorem q_X2_enclosed_215 : decode M_X2_enclosed.2.1 215 = .ok (.iload_n 3, 1) ∧ 215 + 1 = 216 := ⟨by decide +kernel, rfl⟩
theorem q_X2_enclosed_216 : decode M_X2_enclosed.2.1 216 = .ok (.invokestatic 89, 3) ∧ 216 + 3 = 219 := ⟨by decide +kernel, rfl⟩
theorem g_X2_enclosed_216 : en_C M_X2_enclosed M_X2_fillFromFine 89 2 := ⟨⟨by decide +kernel, by decide +kernel, by decide +kernel⟩, ⟨by decide, by decide, by decide +kernel⟩, by decide, by decide⟩
theorem w_X2_fillFromFine : Cond.static M_X2_fillFromFine.1 ∈ en_tbl := by decide +kernel
theorem q_X2_enclosed_219 : decode M_X2_enclosed.2.1 219 = .ok (.goto 50, 3) ∧ 219 + 3 = 222 ∧ ((219 : Nat) : Int) + 50 = ((269 : Nat) : Int) := ⟨by decide +kernel, rfl, rfl⟩
theorem q_X2_enclosed_222 : decode M_X2_enclosed.2.1 222 = .ok (.aload_n 0, 1) ∧ 222 + 1 = 223 := ⟨by decide +kernel, rfl⟩
theorem q_X2_enclosed_223 : decode M_X2_enclosed.2.1 223 = .ok (.aload 7, 2) ∧ 223 + 2 = 225 := ⟨by decide +kernel, rfl⟩
theorem q_X2_enclosed_225 : decode M_X2_enclosed.2.1 225 = .ok (.aload 8, 2) ∧ 225 + 2 = 227 := ⟨by decide +kernel, rfl⟩
theorem q_X2_enclosed_227 : decode M_X2_enclosed.2.1 227 = .ok (.iload_n 3, 1) ∧ 227 + 1 = 228 := ⟨by decide +kernel, rfl⟩
theorem q_X2_enclosed_228 : decode M_X2_enclosed.2.1 228 = .ok (.invokevirtual 92, 3) ∧ 228 + 3 = 231 := ⟨by decide +kernel, rfl⟩
theorem g_X2_enclosed_228 : en_C M_X2_enclosed M_X2_fillRoot 92 3 := ⟨⟨by decide +kernel, by decide +kernel, by decide +kernel⟩, ⟨by decide, by decide, by decide +kernel⟩, by decide, by decide⟩
theorem w_X2_fillRoot : Cond.instanceMethod M_X2_fillRoot.1 ∈ en_tbl ∧ Cond.selects M_X2_fillRoot.1.cls M_X2_fillRoot.1 M_X2_fillRoot.1 ∈ en_tbl := ⟨by decide +kernel, by decide +kernel⟩
theorem q_X2_enclosed_231 : decode M_X2_enclosed.2.1 231 = .ok (.goto 38, 3) ∧ 231 + 3 = 234 ∧ ((231 : Nat) : Int) + 38 = ((269 : Nat) : Int) := ⟨by decide +kernel, rfl, rfl⟩
theorem q_X2_enclosed_234 : decode M_X2_enclosed.2.1 234 = .ok (.aload 7, 2) ∧ 234 + 2 = 236 := ⟨by decide +kernel, rfl⟩
theorem q_X2_enclosed_236 : decode M_X2_enclosed.2.1 236 = .ok (.aload 8, 2) ∧ 236 + 2 = 238 := ⟨by decide +kernel, rfl⟩
theorem q_X2_enclosed_238 : decode M_X2_enclosed.2.1 238 = .ok (.aload 9, 2) ∧ 238 + 2 = 240 := ⟨by decide +kernel, rfl⟩
theorem q_X2_enclosed_240 : decode M_X2_enclosed.2.1 240 = .ok (.invokestatic 96, 3) ∧ 240 + 3 = 243 := ⟨by decide +kernel, rfl⟩
theorem g_X2_enclosed_240 : en_C M_X2_enclosed M_X2_fillSum 96 3 := ⟨⟨by decide +kernel, by decide +kernel, by decide +kernel⟩, ⟨by decide, by decide, by decide +kernel⟩, by decide, by decide⟩
theorem w_X2_fillSum : Cond.static M_X2_fillSum.1 ∈ en_tbl := by decide +kernel
theorem q_X2_enclosed_243 : decode M_X2_enclosed.2.1 243 = .ok (.goto 26, 3) ∧ 243 + 3 = 246 ∧ ((243 : Nat) : Int) + 26 = ((269 : Nat) : Int) := ⟨by decide +kernel, rfl, rfl⟩
theorem q_X2_enclosed_246 : decode M_X2_enclosed.2.1 246 = .ok (.aload 7, 2) ∧ 246 + 2 = 248 := ⟨by decide +kernel, rfl⟩
theorem q_X2_enclosed_248 : decode M_X2_enclosed.2.1 248 = .ok (.aload 8, 2) ∧ 248 + 2 = 250 := ⟨by decide +kernel, rfl⟩
theorem q_X2_enclosed_250 : decode M_X2_enclosed.2.1 250 = .ok (.aload 9, 2) ∧ 250 + 2 = 252 := ⟨by decide +kernel, rfl⟩
theorem q_X2_enclosed_252 : decode M_X2_enclosed.2.1 252 = .ok (.invokestatic 100, 3) ∧ 252 + 3 = 255 := ⟨by decide +kernel, rfl⟩
theorem g_X2_enclosed_252 : en_C M_X2_enclosed M_X2_fillDifference 100 3 := ⟨⟨by decide +kernel, by decide +kernel, by decide +kernel⟩, ⟨by decide, by decide, by decide +kernel⟩, by decide, by decide⟩
theorem w_X2_fillDifference : Cond.static M_X2_fillDifference.1 ∈ en_tbl := by decide +kernel
theorem q_X2_enclosed_255 : decode M_X2_enclosed.2.1 255 = .ok (.goto 14, 3) ∧ 255 + 3 = 258 ∧ ((255 : Nat) : Int) + 14 = ((269 : Nat) : Int) := ⟨by decide +kernel, rfl, rfl⟩
theorem q_X2_enclosed_258 : decode M_X2_enclosed.2.1 258 = .ok (.aload_n 0, 1) ∧ 258 + 1 = 259 := ⟨by decide +kernel, rfl⟩
theorem q_X2_enclosed_259 : decode M_X2_enclosed.2.1 259 = .ok (.aload 7, 2) ∧ 259 + 2 = 261 := ⟨by decide +kernel, rfl⟩
theorem q_X2_enclosed_261 : decode M_X2_enclosed.2.1 261 = .ok (.aload 8, 2) ∧ 261 + 2 = 263 := ⟨by decide +kernel, rfl⟩
theorem q_X2_enclosed_263 : decode M_X2_enclosed.2.1 263 = .ok (.aload 9, 2) ∧ 263 + 2 = 265 := ⟨by decide +kernel, rfl⟩
theorem q_X2_enclosed_265 : decode M_X2_enclosed.2.1 265 = .ok (.iload_n 3, 1) ∧ 265 + 1 = 266 := ⟨by decide +kernel, rfl⟩
theorem q_X2_enclosed_266 : decode M_X2_enclosed.2.1 266 = .ok (.invokevirtual 103, 3) ∧ 266 + 3 = 269 := ⟨by decide +kernel, rfl⟩
theorem g_X2_enclosed_266 : en_C M_X2_enclosed M_X2_fillCorners 103 4 := ⟨⟨by decide +kernel, by decide +kernel, by decide +kernel⟩, ⟨by decide, by decide, by decide +kernel⟩, by decide, by decide⟩
theorem w_X2_fillCorners : Cond.instanceMethod M_X2_fillCorners.1 ∈ en_tbl ∧ Cond.selects M_X2_fillCorners.1.cls M_X2_fillCorners.1 M_X2_fillCorners.1 ∈ en_tbl := ⟨by decide +kernel, by decide +kernel⟩
theorem q_X2_enclosed_269 : decode M_X2_enclosed.2.1 269 = .ok (.aload 7, 2) ∧ 269 + 2 = 271 := ⟨by decide +kernel, rfl⟩
theorem q_X2_enclosed_271 : decode M_X2_enclosed.2.1 271 = .ok (.aload 7, 2) ∧ 271 + 2 = 273 := ⟨by decide +kernel, rfl⟩
theorem q_X2_enclosed_273 : decode M_X2_enclosed.2.1 273 = .ok (.getfield 75, 3) ∧ 273 + 3 = 276 := ⟨by decide +kernel, rfl⟩
theorem q_X2_enclosed_276 : decode M_X2_enclosed.2.1 276 = .ok (.ifCond .ne 25, 3) ∧ 276 + 3 = 279 ∧ ((276 : Nat) : Int) + 25 = ((301 : Nat) : Int) := ⟨by decide +kernel, rfl, rfl⟩
theorem q_X2_enclosed_279 : decode M_X2_enclosed.2.1 279 = .ok (.aload 7, 2) ∧ 279 + 2 = 281 := ⟨by decide +kernel, rfl⟩
theorem q_X2_enclosed_281 : decode M_X2_enclosed.2.1 281 = .ok (.getfield 107, 3) ∧ 281 + 3 = 284 := ⟨by decide +kernel, rfl⟩
theorem f_RX2_107 : en_F RX2 107 5 7 := ⟨RX5, TX5, 11, rfl, by decide, rfl, by decide +kernel, by decide +kernel⟩
theorem q_X2_enclosed_284 : decode M_X2_enclosed.2.1 284 = .ok (.invokestatic 110, 3) ∧ 284 + 3 = 287 := ⟨by decide +kernel, rfl⟩
theorem g_X2_enclosed_284 : en_C M_X2_enclosed M_X2_isTooLong 110 1 := ⟨⟨by decide +kernel, by decide +kernel, by decide +kernel⟩, ⟨by decide, by decide, by decide +kernel⟩, by decide, by decide⟩
theorem w_X2_isTooLong : Cond.static M_X2_isTooLong.1 ∈ en_tbl := by decide +kernel
theorem q_X2_enclosed_287 : decode M_X2_enclosed.2.1 287 = .ok (.ifCond .ne 14, 3) ∧ 287 + 3 = 290 ∧ ((287 : Nat) : Int) + 14 = ((301 : Nat) : Int) := ⟨by decide +kernel, rfl, rfl⟩
theorem q_X2_enclosed_290 : decode M_X2_enclosed.2.1 290 = .ok (.aload 7, 2) ∧ 290 + 2 = 292 := ⟨by decide +kernel, rfl⟩
theorem q_X2_enclosed_292 : decode M_X2_enclosed.2.1 292 = .ok (.getfield 114, 3) ∧ 292 + 3 = 295 := ⟨by decide +kernel, rfl⟩
theorem f_RX2_114 : en_F RX2 114 5 8 := ⟨RX5, TX5, 11, rfl, by decide, rfl, by decide +kernel, by decide +kernel⟩
theorem q_X2_enclosed_295 : decode M_X2_enclosed.2.1 295 = .ok (.invokestatic 110, 3) ∧ 295 + 3 = 298 := ⟨by decide +kernel, rfl⟩
theorem g_X2_enclosed_295 : en_C M_X2_enclosed M_X2_isTooLong 110 1 := ⟨⟨by decide +kernel, by decide +kernel, by decide +kernel⟩, ⟨by decide, by decide, by decide +kernel⟩, by decide, by decide⟩
theorem q_X2_enclosed_298 : decode M_X2_enclosed.2.1 298 = .ok (.ifCond .eq 7, 3) ∧ 298 + 3 = 301 ∧ ((298 : Nat) : Int) + 7 = ((305 : Nat) : Int) := ⟨by decide +kernel, rfl, rfl⟩
theorem q_X2_enclosed_301 : decode M_X2_enclosed.2.1 301 = .ok (.iconst 1, 1) ∧ 301 + 1 = 302 := ⟨by decide +kernel, rfl⟩
theorem q_X2_enclosed_302 : decode M_X2_enclosed.2.1 302 = .ok (.goto 4, 3) ∧ 302 + 3 = 305 ∧ ((302 : Nat) : Int) + 4 = ((306 : Nat) : Int) := ⟨by decide +kernel, rfl, rfl⟩
theorem q_X2_enclosed_305 : decode M_X2_enclosed.2.1 305 = .ok (.iconst 0, 1) ∧ 305 + 1 = 306 := ⟨by decide +kernel, rfl⟩
theorem q_X2_enclosed_306 : decode M_X2_enclosed.2.1 306 = .ok (.putfield 75, 3) ∧ 306 + 3 = 309 := ⟨by decide +kernel, rfl⟩
theorem q_X2_enclosed_309 : decode M_X2_enclosed.2.1 309 = .ok (.iinc 6 1, 3) ∧ 309 + 3 = 312 := ⟨by decide +kernel, rfl⟩
theorem q_X2_enclosed_312 : decode M_X2_enclosed.2.1 312 = .ok (.goto (-289), 3) ∧ 312 + 3 = 315 ∧ ((312 : Nat) : Int) + (-289) = ((23 : Nat) : Int) := ⟨by decide +kernel, rfl, rfl⟩
theorem q_X2_enclosed_315 : decode M_X2_enclosed.2.1 315 = .ok (.aload_n 1, 1) ∧ 315 + 1 = 316 := ⟨by decide +kernel, rfl⟩
theorem q_X2_enclosed_316 : decode M_X2_enclosed.2.1 316 = .ok (.iload_n 2, 1) ∧ 316 + 1 = 317 := ⟨by decide +kernel, rfl⟩
theorem q_X2_enclosed_317 : decode M_X2_enclosed.2.1 317 = .ok (.aaload, 1) ∧ 317 + 1 = 318 := ⟨by decide +kernel, rfl⟩
theorem q_X2_enclosed_318 : decode M_X2_enclosed.2.1 318 = .ok (.areturn, 1) ∧ 318 + 1 = 319 := ⟨by decide +kernel, rfl⟩
theorem q_X2_neededFor_0 : decode M_X2_neededFor.2.1 0 = .ok (.lconst 1, 1) ∧ 0 + 1 = 1 := ⟨by decide +kernel, rfl⟩
theorem q_X2_neededFor_1 : decode M_X2_neededFor.2.1 1 = .ok (.iload_n 1, 1) ∧ 1 + 1 = 2 := ⟨by decide +kernel, rfl⟩
theorem q_X2_neededFor_2 : decode M_X2_neededFor.2.1 2 = .ok (.lshl, 1) ∧ 2 + 1 = 3 := ⟨by decide +kernel, rfl⟩
theorem q_X2_neededFor_3 : decode M_X2_neededFor.2.1 3 = .ok (.lstore_n 3, 1) ∧ 3 + 1 = 4 := ⟨by decide +kernel, rfl⟩
theorem q_X2_neededFor_4 : decode M_X2_neededFor.2.1 4 = .ok (.iload_n 1, 1) ∧ 4 + 1 = 5 := ⟨by decide +kernel, rfl⟩
theorem q_X2_neededFor_5 : decode M_X2_neededFor.2.1 5 = .ok (.istore 5, 2) ∧ 5 + 2 = 7 := ⟨by decide +kernel, rfl⟩
theorem q_X2_neededFor_7 : decode M_X2_neededFor.2.1 7 = .ok (.iload 5, 2) ∧ 7 + 2 = 9 := ⟨by decide +kernel, rfl⟩
theorem q_X2_neededFor_9 : decode M_X2_neededFor.2.1 9 = .ok (.ifCond .lt 82, 3) ∧ 9 + 3 = 12 ∧ ((9 : Nat) : Int) + 82 = ((91 : Nat) : Int) := ⟨by decide +kernel, rfl, rfl⟩
theorem q_X2_neededFor_12 : decode M_X2_neededFor.2.1 12 = .ok (.aload_n 0, 1) ∧ 12 + 1 = 13 := ⟨by decide +kernel, rfl⟩
theorem q_X2_neededFor_13 : decode M_X2_neededFor.2.1 13 = .ok (.iload 5, 2) ∧ 13 + 2 = 15 := ⟨by decide +kernel, rfl⟩
theorem q_X2_neededFor_15 : decode M_X2_neededFor.2.1 15 = .ok (.aaload, 1) ∧ 15 + 1 = 16 := ⟨by decide +kernel, rfl⟩
theorem q_X2_neededFor_16 : decode M_X2_neededFor.2.1 16 = .ok (.astore 6, 2) ∧ 16 + 2 = 18 := ⟨by decide +kernel, rfl⟩
theorem q_X2_neededFor_18 : decode M_X2_neededFor.2.1 18 = .ok (.aload 6, 2) ∧ 18 + 2 = 20 := ⟨by decide +kernel, rfl⟩
theorem q_X2_neededFor_20 : decode M_X2_neededFor.2.1 20 = .ok (.ifnull 65, 3) ∧ 20 + 3 = 23 ∧ ((20 : Nat) : Int) + 65 = ((85 : Nat) : Int) := ⟨by decide +kernel, rfl, rfl⟩
theorem q_X2_neededFor_23 : decode M_X2_neededFor.2.1 23 = .ok (.lload_n 3, 1) ∧ 23 + 1 = 24 := ⟨by decide +kernel, rfl⟩
theorem q_X2_neededFor_24 : decode M_X2_neededFor.2.1 24 = .ok (.iload 5, 2) ∧ 24 + 2 = 26 := ⟨by decide +kernel, rfl⟩
theorem q_X2_neededFor_26 : decode M_X2_neededFor.2.1 26 = .ok (.invokestatic 48, 3) ∧ 26 + 3 = 29 := ⟨by decide +kernel, rfl⟩
theorem g_X2_neededFor_26 : en_C M_X2_neededFor M_X2_isMarked 48 2 := ⟨⟨by decide +kernel, by decide +kernel, by decide +kernel⟩, ⟨by decide, by decide, by decide +kernel⟩, by decide, by decide⟩
theorem q_X2_neededFor_29 : decode M_X2_neededFor.2.1 29 = .ok (.ifCond .ne 6, 3) ∧ 29 + 3 = 32 ∧ ((29 : Nat) : Int) + 6 = ((35 : Nat) : Int) := ⟨by decide +kernel, rfl, rfl⟩
theorem q_X2_neededFor_32 : decode M_X2_neededFor.2.1 32 = .ok (.goto 53, 3) ∧ 32 + 3 = 35 ∧ ((32 : Nat) : Int) + 53 = ((85 : Nat) : Int) := ⟨by decide +kernel, rfl, rfl⟩
theorem q_X2_neededFor_35 : decode M_X2_neededFor.2.1 35 = .ok (.aload 6, 2) ∧ 35 + 2 = 37 := ⟨by decide +kernel, rfl⟩
theorem q_X2_neededFor_37 : decode M_X2_neededFor.2.1 37 = .ok (.getfield 65, 3) ∧ 37 + 3 = 40 := ⟨by decide +kernel, rfl⟩
theorem f_RX2_65 : en_F RX2 65 5 5 := ⟨RX5, TX5, 11, rfl, by decide, rfl, by decide +kernel, by decide +kernel⟩
theorem q_X2_neededFor_40 : decode M_X2_neededFor.2.1 40 = .ok (.iload_n 2, 1) ∧ 40 + 1 = 41 := ⟨by decide +kernel, rfl⟩
theorem q_X2_neededFor_41 : decode M_X2_neededFor.2.1 41 = .ok (.if_icmp .ne 17, 3) ∧ 41 + 3 = 44 ∧ ((41 : Nat) : Int) + 17 = ((58 : Nat) : Int) := ⟨by decide +kernel, rfl, rfl⟩
theorem q_X2_neededFor_44 : decode M_X2_neededFor.2.1 44 = .ok (.lload_n 3, 1) ∧ 44 + 1 = 45 := ⟨by decide +kernel, rfl⟩
theorem q_X2_neededFor_45 : decode M_X2_neededFor.2.1 45 = .ok (.lconst 1, 1) ∧ 45 + 1 = 46 := ⟨by decide +kernel, rfl⟩
theorem q_X2_neededFor_46 : decode M_X2_neededFor.2.1 46 = .ok (.iload 5, 2) ∧ 46 + 2 = 48 := ⟨by decide +kernel, rfl⟩
theorem q_X2_neededFor_48 : decode M_X2_neededFor.2.1 48 = .ok (.lshl, 1) ∧ 48 + 1 = 49 := ⟨by decide +kernel, rfl⟩
theorem q_X2_neededFor_49 : decode M_X2_neededFor.2.1 49 = .ok (.ldc2_w 117, 3) ∧ 49 + 3 = 52 := ⟨by decide +kernel, rfl⟩
theorem k_RX2_117 : Cond.constantLong RX2 117 (-1) ∈ en_tbl := by decide +kernel
theorem q_X2_neededFor_52 : decode M_X2_neededFor.2.1 52 = .ok (.lxor, 1) ∧ 52 + 1 = 53 := ⟨by decide +kernel, rfl⟩
theorem q_X2_neededFor_53 : decode M_X2_neededFor.2.1 53 = .ok (.land, 1) ∧ 53 + 1 = 54 := ⟨by decide +kernel, rfl⟩
theorem q_X2_neededFor_54 : decode M_X2_neededFor.2.1 54 = .ok (.lstore_n 3, 1) ∧ 54 + 1 = 55 := ⟨by decide +kernel, rfl⟩
theorem q_X2_neededFor_55 : decode M_X2_neededFor.2.1 55 = .ok (.goto 30, 3) ∧ 55 + 3 = 58 ∧ ((55 : Nat) : Int) + 30 = ((85 : Nat) : Int) := ⟨by decide +kernel, rfl, rfl⟩
theorem q_X2_neededFor_58 : decode M_X2_neededFor.2.1 58 = .ok (.aload 6, 2) ∧ 58 + 2 = 60 := ⟨by decide +kernel, rfl⟩
theorem q_X2_neededFor_60 : decode M_X2_neededFor.2.1 60 = .ok (.getfield 68, 3) ∧ 60 + 3 = 63 := ⟨by decide +kernel, rfl⟩
theorem q_X2_neededFor_63 : decode M_X2_neededFor.2.1 63 = .ok (.iconst 5, 1) ∧ 63 + 1 = 64 := ⟨by decide +kernel, rfl⟩
theorem q_X2_neededFor_64 : decode M_X2_neededFor.2.1 64 = .ok (.if_icmp .lt 21, 3) ∧ 64 + 3 = 67 ∧ ((64 : Nat) : Int) + 21 = ((85 : Nat) : Int) := ⟨by decide +kernel, rfl, rfl⟩
theorem q_X2_neededFor_67 : decode M_X2_neededFor.2.1 67 = .ok (.lload_n 3, 1) ∧ 67 + 1 = 68 := ⟨by decide +kernel, rfl⟩
theorem q_X2_neededFor_68 : decode M_X2_neededFor.2.1 68 = .ok (.lconst 1, 1) ∧ 68 + 1 = 69 := ⟨by decide +kernel, rfl⟩
theorem q_X2_neededFor_69 : decode M_X2_neededFor.2.1 69 = .ok (.aload 6, 2) ∧ 69 + 2 = 71 := ⟨by decide +kernel, rfl⟩
theorem q_X2_neededFor_71 : decode M_X2_neededFor.2.1 71 = .ok (.getfield 52, 3) ∧ 71 + 3 = 74 := ⟨by decide +kernel, rfl⟩
theorem q_X2_neededFor_74 : decode M_X2_neededFor.2.1 74 = .ok (.lshl, 1) ∧ 74 + 1 = 75 := ⟨by decide +kernel, rfl⟩
theorem q_X2_neededFor_75 : decode M_X2_neededFor.2.1 75 = .ok (.lconst 1, 1) ∧ 75 + 1 = 76 := ⟨by decide +kernel, rfl⟩
theorem q_X2_neededFor_76 : decode M_X2_neededFor.2.1 76 = .ok (.aload 6, 2) ∧ 76 + 2 = 78 := ⟨by decide +kernel, rfl⟩
theorem q_X2_neededFor_78 : decode M_X2_neededFor.2.1 78 = .ok (.getfield 62, 3) ∧ 78 + 3 = 81 := ⟨by decide +kernel, rfl⟩
theorem q_X2_neededFor_81 : decode M_X2_neededFor.2.1 81 = .ok (.lshl, 1) ∧ 81 + 1 = 82 := ⟨by decide +kernel, rfl⟩
theorem q_X2_neededFor_82 : decode M_X2_neededFor.2.1 82 = .ok (.lor, 1) ∧ 82 + 1 = 83 := ⟨by decide +kernel, rfl⟩
theorem q_X2_neededFor_83 : decode M_X2_neededFor.2.1 83 = .ok (.lor, 1) ∧ 83 + 1 = 84 := ⟨by decide +kernel, rfl⟩
theorem q_X2_neededFor_84 : decode M_X2_neededFor.2.1 84 = .ok (.lstore_n 3, 1) ∧ 84 + 1 = 85 := ⟨by decide +kernel, rfl⟩
theorem q_X2_neededFor_85 : decode M_X2_neededFor.2.1 85 = .ok (.iinc 5 (-1), 3) ∧ 85 + 3 = 88 := ⟨by decide +kernel, rfl⟩
theorem q_X2_neededFor_88 : decode M_X2_neededFor.2.1 88 = .ok (.goto (-81), 3) ∧ 88 + 3 = 91 ∧ ((88 : Nat) : Int) + (-81) = ((7 : Nat) : Int) := ⟨by decide +kernel, rfl, rfl⟩
theorem q_X2_neededFor_91 : decode M_X2_neededFor.2.1 91 = .ok (.lload_n 3, 1) ∧ 91 + 1 = 92 := ⟨by decide +kernel, rfl⟩
theorem q_X2_neededFor_92 : decode M_X2_neededFor.2.1 92 = .ok (.lreturn, 1) ∧ 92 + 1 = 93 := ⟨by decide +kernel, rfl⟩
theorem q_X2_isMarked_0 : decode M_X2_isMarked.2.1 0 = .ok (.lload_n 0, 1) ∧ 0 + 1 = 1 := ⟨by decide +kernel, rfl⟩
theorem q_X2_isMarked_1 : decode M_X2_isMarked.2.1 1 = .ok (.iload_n 2, 1) ∧ 1 + 1 = 2 := ⟨by decide +kernel, rfl⟩
theorem q_X2_isMarked_2 : decode M_X2_isMarked.2.1 2 = .ok (.lushr, 1) ∧ 2 + 1 = 3 := ⟨by decide +kernel, rfl⟩
theorem q_X2_isMarked_3 : decode M_X2_isMarked.2.1 3 = .ok (.lconst 1, 1) ∧ 3 + 1 = 4 := ⟨by decide +kernel, rfl⟩
theorem q_X2_isMarked_4 : decode M_X2_isMarked.2.1 4 = .ok (.land, 1) ∧ 4 + 1 = 5 := ⟨by decide +kernel, rfl⟩
theorem q_X2_isMarked_5 : decode M_X2_isMarked.2.1 5 = .ok (.lconst 0, 1) ∧ 5 + 1 = 6 := ⟨by decide +kernel, rfl⟩
theorem q_X2_isMarked_6 : decode M_X2_isMarked.2.1 6 = .ok (.lcmp, 1) ∧ 6 + 1 = 7 := ⟨by decide +kernel, rfl⟩
theorem q_X2_isMarked_7 : decode M_X2_isMarked.2.1 7 = .ok (.ifCond .eq 7, 3) ∧ 7 + 3 = 10 ∧ ((7 : Nat) : Int) + 7 = ((14 : Nat) : Int) := ⟨by decide +kernel, rfl, rfl⟩
theorem q_X2_isMarked_10 : decode M_X2_isMarked.2.1 10 = .ok (.iconst 1, 1) ∧ 10 + 1 = 11 := ⟨by decide +kernel, rfl⟩
theorem q_X2_isMarked_11 : decode M_X2_isMarked.2.1 11 = .ok (.goto 4, 3) ∧ 11 + 3 = 14 ∧ ((11 : Nat) : Int) + 4 = ((15 : Nat) : Int) := ⟨by decide +kernel, rfl, rfl⟩
theorem q_X2_isMarked_14 : decode M_X2_isMarked.2.1 14 = .ok (.iconst 0, 1) ∧ 14 + 1 = 15 := ⟨by decide +kernel, rfl⟩
theorem q_X2_isMarked_15 : decode M_X2_isMarked.2.1 15 = .ok (.ireturn, 1) ∧ 15 + 1 = 16 := ⟨by decide +kernel, rfl⟩
theorem q_X2_partOf_0 : decode M_X2_partOf.2.1 0 = .ok (.iload_n 1, 1) ∧ 0 + 1 = 1 := ⟨by decide +kernel, rfl⟩
theorem q_X2_partOf_1 : decode M_X2_partOf.2.1 1 = .ok (.ifCond .lt 14, 3) ∧ 1 + 3 = 4 ∧ ((1 : Nat) : Int) + 14 = ((15 : Nat) : Int) := ⟨by decide +kernel, rfl, rfl⟩
theorem q_X2_partOf_4 : decode M_X2_partOf.2.1 4 = .ok (.iload_n 1, 1) ∧ 4 + 1 = 5 := ⟨by decide +kernel, rfl⟩
theorem q_X2_partOf_5 : decode M_X2_partOf.2.1 5 = .ok (.iload_n 2, 1) ∧ 5 + 1 = 6 := ⟨by decide +kernel, rfl⟩
theorem q_X2_partOf_6 : decode M_X2_partOf.2.1 6 = .ok (.if_icmp .ge 9, 3) ∧ 6 + 3 = 9 ∧ ((6 : Nat) : Int) + 9 = ((15 : Nat) : Int) := ⟨by decide +kernel, rfl, rfl⟩
theorem q_X2_partOf_9 : decode M_X2_partOf.2.1 9 = .ok (.iload_n 1, 1) ∧ 9 + 1 = 10 := ⟨by decide +kernel, rfl⟩
theorem q_X2_partOf_10 : decode M_X2_partOf.2.1 10 = .ok (.aload_n 0, 1) ∧ 10 + 1 = 11 := ⟨by decide +kernel, rfl⟩
theorem q_X2_partOf_11 : decode M_X2_partOf.2.1 11 = .ok (.arraylength, 1) ∧ 11 + 1 = 12 := ⟨by decide +kernel, rfl⟩
theorem q_X2_partOf_12 : decode M_X2_partOf.2.1 12 = .ok (.if_icmp .lt 7, 3) ∧ 12 + 3 = 15 ∧ ((12 : Nat) : Int) + 7 = ((19 : Nat) : Int) := ⟨by decide +kernel, rfl, rfl⟩
theorem q_X2_partOf_15 : decode M_X2_partOf.2.1 15 = .ok (.aconst_null, 1) ∧ 15 + 1 = 16 := ⟨by decide +kernel, rfl⟩
theorem q_X2_partOf_16 : decode M_X2_partOf.2.1 16 = .ok (.goto 6, 3) ∧ 16 + 3 = 19 ∧ ((16 : Nat) : Int) + 6 = ((22 : Nat) : Int) := ⟨by decide +kernel, rfl, rfl⟩
theorem q_X2_partOf_19 : decode M_X2_partOf.2.1 19 = .ok (.aload_n 0, 1) ∧ 19 + 1 = 20 := ⟨by decide +kernel, rfl⟩
theorem q_X2_partOf_20 : decode M_X2_partOf.2.1 20 = .ok (.iload_n 1, 1) ∧ 20 + 1 = 21 := ⟨by decide +kernel, rfl⟩
theorem q_X2_partOf_21 : decode M_X2_partOf.2.1 21 = .ok (.aaload, 1) ∧ 21 + 1 = 22 := ⟨by decide +kernel, rfl⟩
theorem q_X2_partOf_22 : decode M_X2_partOf.2.1 22 = .ok (.areturn, 1) ∧ 22 + 1 = 23 := ⟨by decide +kernel, rfl⟩
theorem q_X2_isOpen_0 : decode M_X2_isOpen.2.1 0 = .ok (.aload_n 0, 1) ∧ 0 + 1 = 1 := ⟨by decide +kernel, rfl⟩
theorem q_X2_isOpen_1 : decode M_X2_isOpen.2.1 1 = .ok (.ifnull 10, 3) ∧ 1 + 3 = 4 ∧ ((1 : Nat) : Int) + 10 = ((11 : Nat) : Int) := ⟨by decide +kernel, rfl, rfl⟩
theorem q_X2_isOpen_4 : decode M_X2_isOpen.2.1 4 = .ok (.aload_n 0, 1) ∧ 4 + 1 = 5 := ⟨by decide +kernel, rfl⟩
theorem q_X2_isOpen_5 : decode M_X2_isOpen.2.1 5 = .ok (.getfield 75, 3) ∧ 5 + 3 = 8 := ⟨by decide +kernel, rfl⟩
theorem q_X2_isOpen_8 : decode M_X2_isOpen.2.1 8 = .ok (.ifCond .eq 7, 3) ∧ 8 + 3 = 11 ∧ ((8 : Nat) : Int) + 7 = ((15 : Nat) : Int) := ⟨by decide +kernel, rfl, rfl⟩
theorem q_X2_isOpen_11 : decode M_X2_isOpen.2.1 11 = .ok (.iconst 1, 1) ∧ 11 + 1 = 12 := ⟨by decide +kernel, rfl⟩
theorem q_X2_isOpen_12 : decode M_X2_isOpen.2.1 12 = .ok (.goto 4, 3) ∧ 12 + 3 = 15 ∧ ((12 : Nat) : Int) + 4 = ((16 : Nat) : Int) := ⟨by decide +kernel, rfl, rfl⟩
theorem q_X2_isOpen_15 : decode M_X2_isOpen.2.1 15 = .ok (.iconst 0, 1) ∧ 15 + 1 = 16 := ⟨by decide +kernel, rfl⟩
theorem q_X2_isOpen_16 : decode M_X2_isOpen.2.1 16 = .ok (.ireturn, 1) ∧ 16 + 1 = 17 := ⟨by decide +kernel, rfl⟩
theorem q_X2_isExact_0 : decode M_X2_isExact.2.1 0 = .ok (.aload_n 0, 1) ∧ 0 + 1 = 1 := ⟨by decide +kernel, rfl⟩
theorem q_X2_isExact_1 : decode M_X2_isExact.2.1 1 = .ok (.getfield 107, 3) ∧ 1 + 3 = 4 := ⟨by decide +kernel, rfl⟩
theorem q_X2_isExact_4 : decode M_X2_isExact.2.1 4 = .ok (.aload_n 0, 1) ∧ 4 + 1 = 5 := ⟨by decide +kernel, rfl⟩
theorem q_X2_isExact_5 : decode M_X2_isExact.2.1 5 = .ok (.getfield 114, 3) ∧ 5 + 3 = 8 := ⟨by decide +kernel, rfl⟩
theorem q_X2_isExact_8 : decode M_X2_isExact.2.1 8 = .ok (.invokevirtual 119, 3) ∧ 8 + 3 = 11 := ⟨by decide +kernel, rfl⟩
theorem g_X2_isExact_8 : en_C M_X2_isExact M_X1_compare 119 1 := ⟨⟨by decide +kernel, by decide +kernel, by decide +kernel⟩, ⟨by decide, by decide, by decide +kernel⟩, by decide, by decide⟩
theorem q_X2_isExact_11 : decode M_X2_isExact.2.1 11 = .ok (.ifCond .ne 7, 3) ∧ 11 + 3 = 14 ∧ ((11 : Nat) : Int) + 7 = ((18 : Nat) : Int) := ⟨by decide +kernel, rfl, rfl⟩
theorem q_X2_isExact_14 : decode M_X2_isExact.2.1 14 = .ok (.iconst 1, 1) ∧ 14 + 1 = 15 := ⟨by decide +kernel, rfl⟩
theorem q_X2_isExact_15 : decode M_X2_isExact.2.1 15 = .ok (.goto 4, 3) ∧ 15 + 3 = 18 ∧ ((15 : Nat) : Int) + 4 = ((19 : Nat) : Int) := ⟨by decide +kernel, rfl, rfl⟩
theorem q_X2_isExact_18 : decode M_X2_isExact.2.1 18 = .ok (.iconst 0, 1) ∧ 18 + 1 = 19 := ⟨by decide +kernel, rfl⟩
theorem q_X2_isExact_19 : decode M_X2_isExact.2.1 19 = .ok (.ireturn, 1) ∧ 19 + 1 = 20 := ⟨by decide +kernel, rfl⟩
theorem q_X2_isTooLong_0 : decode M_X2_isTooLong.2.1 0 = .ok (.aload_n 0, 1) ∧ 0 + 1 = 1 := ⟨by decide +kernel, rfl⟩
theorem q_X2_isTooLong_1 : decode M_X2_isTooLong.2.1 1 = .ok (.invokevirtual 123, 3) ∧ 1 + 3 = 4 := ⟨by decide +kernel, rfl⟩
theorem g_X2_isTooLong_1 : en_C M_X2_isTooLong M_X1_digitCount 123 0 := ⟨⟨by decide +kernel, by decide +kernel, by decide +kernel⟩, ⟨by decide, by decide, by decide +kernel⟩, by decide, by decide⟩
theorem w_X1_digitCount : Cond.instanceMethod M_X1_digitCount.1 ∈ en_tbl ∧ Cond.selects M_X1_digitCount.1.cls M_X1_digitCount.1 M_X1_digitCount.1 ∈ en_tbl := ⟨by decide +kernel, by decide +kernel⟩
theorem q_X2_isTooLong_4 : decode M_X2_isTooLong.2.1 4 = .ok (.sipush 800, 3) ∧ 4 + 3 = 7 := ⟨by decide +kernel, rfl⟩
theorem q_X2_isTooLong_7 : decode M_X2_isTooLong.2.1 7 = .ok (.if_icmp .le 7, 3) ∧ 7 + 3 = 10 ∧ ((7 : Nat) : Int) + 7 = ((14 : Nat) : Int) := ⟨by decide +kernel, rfl, rfl⟩
theorem q_X2_isTooLong_10 : decode M_X2_isTooLong.2.1 10 = .ok (.iconst 1, 1) ∧ 10 + 1 = 11 := ⟨by decide +kernel, rfl⟩
theorem q_X2_isTooLong_11 : decode M_X2_isTooLong.2.1 11 = .ok (.goto 4, 3) ∧ 11 + 3 = 14 ∧ ((11 : Nat) : Int) + 4 = ((15 : Nat) : Int) := ⟨by decide +kernel, rfl, rfl⟩
theorem q_X2_isTooLong_14 : decode M_X2_isTooLong.2.1 14 = .ok (.iconst 0, 1) ∧ 14 + 1 = 15 := ⟨by decide +kernel, rfl⟩
theorem q_X2_isTooLong_15 : decode M_X2_isTooLong.2.1 15 = .ok (.ireturn, 1) ∧ 15 + 1 = 16 := ⟨by decide +kernel, rfl⟩
theorem q_X2_fillWhole_0 : decode M_X2_fillWhole.2.1 0 = .ok (.aload_n 0, 1) ∧ 0 + 1 = 1 := ⟨by decide +kernel, rfl⟩
theorem q_X2_fillWhole_1 : decode M_X2_fillWhole.2.1 1 = .ok (.getfield 107, 3) ∧ 1 + 3 = 4 := ⟨by decide +kernel, rfl⟩
theorem q_X2_fillWhole_4 : decode M_X2_fillWhole.2.1 4 = .ok (.aload_n 0, 1) ∧ 4 + 1 = 5 := ⟨by decide +kernel, rfl⟩
theorem q_X2_fillWhole_5 : decode M_X2_fillWhole.2.1 5 = .ok (.getfield 127, 3) ∧ 5 + 3 = 8 := ⟨by decide +kernel, rfl⟩
theorem f_RX2_127 : en_F RX2 127 5 1 := ⟨RX5, TX5, 11, rfl, by decide, rfl, by decide +kernel, by decide +kernel⟩
theorem q_X2_fillWhole_8 : decode M_X2_fillWhole.2.1 8 = .ok (.invokevirtual 131, 3) ∧ 8 + 3 = 11 := ⟨by decide +kernel, rfl⟩
theorem g_X2_fillWhole_8 : en_C M_X2_fillWhole M_X1_setLong 131 1 := ⟨⟨by decide +kernel, by decide +kernel, by decide +kernel⟩, ⟨by decide, by decide, by decide +kernel⟩, by decide, by decide⟩
theorem q_X2_fillWhole_11 : decode M_X2_fillWhole.2.1 11 = .ok (.aload_n 0, 1) ∧ 11 + 1 = 12 := ⟨by decide +kernel, rfl⟩
theorem q_X2_fillWhole_12 : decode M_X2_fillWhole.2.1 12 = .ok (.getfield 107, 3) ∧ 12 + 3 = 15 := ⟨by decide +kernel, rfl⟩
theorem q_X2_fillWhole_15 : decode M_X2_fillWhole.2.1 15 = .ok (.iload_n 1, 1) ∧ 15 + 1 = 16 := ⟨by decide +kernel, rfl⟩
theorem q_X2_fillWhole_16 : decode M_X2_fillWhole.2.1 16 = .ok (.invokevirtual 135, 3) ∧ 16 + 3 = 19 := ⟨by decide +kernel, rfl⟩
theorem g_X2_fillWhole_16 : en_C M_X2_fillWhole M_X1_shiftUp 135 1 := ⟨⟨by decide +kernel, by decide +kernel, by decide +kernel⟩, ⟨by decide, by decide, by decide +kernel⟩, by decide, by decide⟩
theorem q_X2_fillWhole_19 : decode M_X2_fillWhole.2.1 19 = .ok (.aload_n 0, 1) ∧ 19 + 1 = 20 := ⟨by decide +kernel, rfl⟩
theorem q_X2_fillWhole_20 : decode M_X2_fillWhole.2.1 20 = .ok (.getfield 114, 3) ∧ 20 + 3 = 23 := ⟨by decide +kernel, rfl⟩
theorem q_X2_fillWhole_23 : decode M_X2_fillWhole.2.1 23 = .ok (.aload_n 0, 1) ∧ 23 + 1 = 24 := ⟨by decide +kernel, rfl⟩
theorem q_X2_fillWhole_24 : decode M_X2_fillWhole.2.1 24 = .ok (.getfield 107, 3) ∧ 24 + 3 = 27 := ⟨by decide +kernel, rfl⟩
theorem q_X2_fillWhole_27 : decode M_X2_fillWhole.2.1 27 = .ok (.invokevirtual 139, 3) ∧ 27 + 3 = 30 := ⟨by decide +kernel, rfl⟩
theorem g_X2_fillWhole_27 : en_C M_X2_fillWhole M_X1_copy 139 1 := ⟨⟨by decide +kernel, by decide +kernel, by decide +kernel⟩, ⟨by decide, by decide, by decide +kernel⟩, by decide, by decide⟩
theorem q_X2_fillWhole_30 : decode M_X2_fillWhole.2.1 30 = .ok (.return_, 1) ∧ 30 + 1 = 31 := ⟨by decide +kernel, rfl⟩
theorem q_X2_fillRatio_0 : decode M_X2_fillRatio.2.1 0 = .ok (.aload_n 0, 1) ∧ 0 + 1 = 1 := ⟨by decide +kernel, rfl⟩
theorem q_X2_fillRatio_1 : decode M_X2_fillRatio.2.1 1 = .ok (.getfield 35, 3) ∧ 1 + 3 = 4 := ⟨by decide +kernel, rfl⟩
theorem f_RX2_35 : en_F RX2 35 2 4 := ⟨RX2, TX2, 7, rfl, by decide, rfl, by decide +kernel, by decide +kernel⟩
theorem q_X2_fillRatio_4 : decode M_X2_fillRatio.2.1 4 = .ok (.aload_n 1, 1) ∧ 4 + 1 = 5 := ⟨by decide +kernel, rfl⟩
theorem q_X2_fillRatio_5 : decode M_X2_fillRatio.2.1 5 = .ok (.getfield 127, 3) ∧ 5 + 3 = 8 := ⟨by decide +kernel, rfl⟩
theorem q_X2_fillRatio_8 : decode M_X2_fillRatio.2.1 8 = .ok (.invokevirtual 131, 3) ∧ 8 + 3 = 11 := ⟨by decide +kernel, rfl⟩
theorem g_X2_fillRatio_8 : en_C M_X2_fillRatio M_X1_setLong 131 1 := ⟨⟨by decide +kernel, by decide +kernel, by decide +kernel⟩, ⟨by decide, by decide, by decide +kernel⟩, by decide, by decide⟩
theorem q_X2_fillRatio_11 : decode M_X2_fillRatio.2.1 11 = .ok (.aload_n 0, 1) ∧ 11 + 1 = 12 := ⟨by decide +kernel, rfl⟩
theorem q_X2_fillRatio_12 : decode M_X2_fillRatio.2.1 12 = .ok (.getfield 35, 3) ∧ 12 + 3 = 15 := ⟨by decide +kernel, rfl⟩
theorem q_X2_fillRatio_15 : decode M_X2_fillRatio.2.1 15 = .ok (.iload_n 2, 1) ∧ 15 + 1 = 16 := ⟨by decide +kernel, rfl⟩
theorem q_X2_fillRatio_16 : decode M_X2_fillRatio.2.1 16 = .ok (.invokevirtual 135, 3) ∧ 16 + 3 = 19 := ⟨by decide +kernel, rfl⟩
theorem g_X2_fillRatio_16 : en_C M_X2_fillRatio M_X1_shiftUp 135 1 := ⟨⟨by decide +kernel, by decide +kernel, by decide +kernel⟩, ⟨by decide, by decide, by decide +kernel⟩, by decide, by decide⟩
theorem q_X2_fillRatio_19 : decode M_X2_fillRatio.2.1 19 = .ok (.aload_n 0, 1) ∧ 19 + 1 = 20 := ⟨by decide +kernel, rfl⟩
theorem q_X2_fillRatio_20 : decode M_X2_fillRatio.2.1 20 = .ok (.getfield 38, 3) ∧ 20 + 3 = 23 := ⟨by decide +kernel, rfl⟩
theorem f_RX2_38 : en_F RX2 38 2 5 := ⟨RX2, TX2, 7, rfl, by decide, rfl, by decide +kernel, by decide +kernel⟩
theorem q_X2_fillRatio_23 : decode M_X2_fillRatio.2.1 23 = .ok (.aload_n 1, 1) ∧ 23 + 1 = 24 := ⟨by decide +kernel, rfl⟩
theorem q_X2_fillRatio_24 : decode M_X2_fillRatio.2.1 24 = .ok (.getfield 143, 3) ∧ 24 + 3 = 27 := ⟨by decide +kernel, rfl⟩
theorem f_RX2_143 : en_F RX2 143 5 2 := ⟨RX5, TX5, 11, rfl, by decide, rfl, by decide +kernel, by decide +kernel⟩
theorem q_X2_fillRatio_27 : decode M_X2_fillRatio.2.1 27 = .ok (.invokevirtual 131, 3) ∧ 27 + 3 = 30 := ⟨by decide +kernel, rfl⟩
theorem g_X2_fillRatio_27 : en_C M_X2_fillRatio M_X1_setLong 131 1 := ⟨⟨by decide +kernel, by decide +kernel, by decide +kernel⟩, ⟨by decide, by decide, by decide +kernel⟩, by decide, by decide⟩
theorem q_X2_fillRatio_30 : decode M_X2_fillRatio.2.1 30 = .ok (.aload_n 0, 1) ∧ 30 + 1 = 31 := ⟨by decide +kernel, rfl⟩
theorem q_X2_fillRatio_31 : decode M_X2_fillRatio.2.1 31 = .ok (.aload_n 0, 1) ∧ 31 + 1 = 32 := ⟨by decide +kernel, rfl⟩
theorem q_X2_fillRatio_32 : decode M_X2_fillRatio.2.1 32 = .ok (.getfield 35, 3) ∧ 32 + 3 = 35 := ⟨by decide +kernel, rfl⟩
theorem q_X2_fillRatio_35 : decode M_X2_fillRatio.2.1 35 = .ok (.aload_n 0, 1) ∧ 35 + 1 = 36 := ⟨by decide +kernel, rfl⟩
theorem q_X2_fillRatio_36 : decode M_X2_fillRatio.2.1 36 = .ok (.getfield 38, 3) ∧ 36 + 3 = 39 := ⟨by decide +kernel, rfl⟩
theorem q_X2_fillRatio_39 : decode M_X2_fillRatio.2.1 39 = .ok (.invokevirtual 146, 3) ∧ 39 + 3 = 42 := ⟨by decide +kernel, rfl⟩
theorem g_X2_fillRatio_39 : en_C M_X2_fillRatio M_X2_divideBothWays 146 2 := ⟨⟨by decide +kernel, by decide +kernel, by decide +kernel⟩, ⟨by decide, by decide, by decide +kernel⟩, by decide, by decide⟩
theorem w_X2_divideBothWays : Cond.instanceMethod M_X2_divideBothWays.1 ∈ en_tbl ∧ Cond.selects M_X2_divideBothWays.1.cls M_X2_divideBothWays.1 M_X2_divideBothWays.1 ∈ en_tbl := ⟨by decide +kernel, by decide +kernel⟩
theorem q_X2_fillRatio_42 : decode M_X2_fillRatio.2.1 42 = .ok (.aload_n 1, 1) ∧ 42 + 1 = 43 := ⟨by decide +kernel, rfl⟩
theorem q_X2_fillRatio_43 : decode M_X2_fillRatio.2.1 43 = .ok (.getfield 107, 3) ∧ 43 + 3 = 46 := ⟨by decide +kernel, rfl⟩
theorem q_X2_fillRatio_46 : decode M_X2_fillRatio.2.1 46 = .ok (.aload_n 0, 1) ∧ 46 + 1 = 47 := ⟨by decide +kernel, rfl⟩
theorem q_X2_fillRatio_47 : decode M_X2_fillRatio.2.1 47 = .ok (.getfield 28, 3) ∧ 47 + 3 = 50 := ⟨by decide +kernel, rfl⟩
theorem f_RX2_28 : en_F RX2 28 2 2 := ⟨RX2, TX2, 7, rfl, by decide, rfl, by decide +kernel, by decide +kernel⟩
theorem q_X2_fillRatio_50 : decode M_X2_fillRatio.2.1 50 = .ok (.invokevirtual 139, 3) ∧ 50 + 3 = 53 := ⟨by decide +kernel, rfl⟩
theorem g_X2_fillRatio_50 : en_C M_X2_fillRatio M_X1_copy 139 1 := ⟨⟨by decide +kernel, by decide +kernel, by decide +kernel⟩, ⟨by decide, by decide, by decide +kernel⟩, by decide, by decide⟩
theorem q_X2_fillRatio_53 : decode M_X2_fillRatio.2.1 53 = .ok (.aload_n 1, 1) ∧ 53 + 1 = 54 := ⟨by decide +kernel, rfl⟩
theorem q_X2_fillRatio_54 : decode M_X2_fillRatio.2.1 54 = .ok (.getfield 114, 3) ∧ 54 + 3 = 57 := ⟨by decide +kernel, rfl⟩
theorem q_X2_fillRatio_57 : decode M_X2_fillRatio.2.1 57 = .ok (.aload_n 0, 1) ∧ 57 + 1 = 58 := ⟨by decide +kernel, rfl⟩
theorem q_X2_fillRatio_58 : decode M_X2_fillRatio.2.1 58 = .ok (.getfield 32, 3) ∧ 58 + 3 = 61 := ⟨by decide +kernel, rfl⟩
theorem f_RX2_32 : en_F RX2 32 2 3 := ⟨RX2, TX2, 7, rfl, by decide, rfl, by decide +kernel, by decide +kernel⟩
theorem q_X2_fillRatio_61 : decode M_X2_fillRatio.2.1 61 = .ok (.invokevirtual 139, 3) ∧ 61 + 3 = 64 := ⟨by decide +kernel, rfl⟩
theorem g_X2_fillRatio_61 : en_C M_X2_fillRatio M_X1_copy 139 1 := ⟨⟨by decide +kernel, by decide +kernel, by decide +kernel⟩, ⟨by decide, by decide, by decide +kernel⟩, by decide, by decide⟩
theorem q_X2_fillRatio_64 : decode M_X2_fillRatio.2.1 64 = .ok (.return_, 1) ∧ 64 + 1 = 65 := ⟨by decide +kernel, rfl⟩
theorem q_X2_fillFromFine_0 : decode M_X2_fillFromFine.2.1 0 = .ok (.aload_n 0, 1) ∧ 0 + 1 = 1 := ⟨by decide +kernel, rfl⟩
theorem q_X2_fillFromFine_1 : decode M_X2_fillFromFine.2.1 1 = .ok (.getfield 107, 3) ∧ 1 + 3 = 4 := ⟨by decide +kernel, rfl⟩
theorem q_X2_fillFromFine_4 : decode M_X2_fillFromFine.2.1 4 = .ok (.aload_n 0, 1) ∧ 4 + 1 = 5 := ⟨by decide +kernel, rfl⟩
theorem q_X2_fillFromFine_5 : decode M_X2_fillFromFine.2.1 5 = .ok (.getfield 150, 3) ∧ 5 + 3 = 8 := ⟨by decide +kernel, rfl⟩
theorem f_RX2_150 : en_F RX2 150 5 10 := ⟨RX5, TX5, 11, rfl, by decide, rfl, by decide +kernel, by decide +kernel⟩
theorem q_X2_fillFromFine_8 : decode M_X2_fillFromFine.2.1 8 = .ok (.invokevirtual 139, 3) ∧ 8 + 3 = 11 := ⟨by decide +kernel, rfl⟩
theorem g_X2_fillFromFine_8 : en_C M_X2_fillFromFine M_X1_copy 139 1 := ⟨⟨by decide +kernel, by decide +kernel, by decide +kernel⟩, ⟨by decide, by decide, by decide +kernel⟩, by decide, by decide⟩
theorem q_X2_fillFromFine_11 : decode M_X2_fillFromFine.2.1 11 = .ok (.aload_n 0, 1) ∧ 11 + 1 = 12 := ⟨by decide +kernel, rfl⟩
theorem q_X2_fillFromFine_12 : decode M_X2_fillFromFine.2.1 12 = .ok (.getfield 107, 3) ∧ 12 + 3 = 15 := ⟨by decide +kernel, rfl⟩
theorem q_X2_fillFromFine_15 : decode M_X2_fillFromFine.2.1 15 = .ok (.aload_n 0, 1) ∧ 15 + 1 = 16 := ⟨by decide +kernel, rfl⟩
theorem q_X2_fillFromFine_16 : decode M_X2_fillFromFine.2.1 16 = .ok (.getfield 153, 3) ∧ 16 + 3 = 19 := ⟨by decide +kernel, rfl⟩
theorem f_RX2_153 : en_F RX2 153 5 9 := ⟨RX5, TX5, 11, rfl, by decide, rfl, by decide +kernel, by decide +kernel⟩
theorem q_X2_fillFromFine_19 : decode M_X2_fillFromFine.2.1 19 = .ok (.iload_n 1, 1) ∧ 19 + 1 = 20 := ⟨by decide +kernel, rfl⟩
theorem q_X2_fillFromFine_20 : decode M_X2_fillFromFine.2.1 20 = .ok (.isub, 1) ∧ 20 + 1 = 21 := ⟨by decide +kernel, rfl⟩
theorem q_X2_fillFromFine_21 : decode M_X2_fillFromFine.2.1 21 = .ok (.iconst (-1), 1) ∧ 21 + 1 = 22 := ⟨by decide +kernel, rfl⟩
theorem q_X2_fillFromFine_22 : decode M_X2_fillFromFine.2.1 22 = .ok (.invokevirtual 156, 3) ∧ 22 + 3 = 25 := ⟨by decide +kernel, rfl⟩
theorem g_X2_fillFromFine_22 : en_C M_X2_fillFromFine M_X1_shrink 156 2 := ⟨⟨by decide +kernel, by decide +kernel, by decide +kernel⟩, ⟨by decide, by decide, by decide +kernel⟩, by decide, by decide⟩
theorem q_X2_fillFromFine_25 : decode M_X2_fillFromFine.2.1 25 = .ok (.aload_n 0, 1) ∧ 25 + 1 = 26 := ⟨by decide +kernel, rfl⟩
theorem q_X2_fillFromFine_26 : decode M_X2_fillFromFine.2.1 26 = .ok (.getfield 114, 3) ∧ 26 + 3 = 29 := ⟨by decide +kernel, rfl⟩
theorem q_X2_fillFromFine_29 : decode M_X2_fillFromFine.2.1 29 = .ok (.aload_n 0, 1) ∧ 29 + 1 = 30 := ⟨by decide +kernel, rfl⟩
theorem q_X2_fillFromFine_30 : decode M_X2_fillFromFine.2.1 30 = .ok (.getfield 107, 3) ∧ 30 + 3 = 33 := ⟨by decide +kernel, rfl⟩
theorem q_X2_fillFromFine_33 : decode M_X2_fillFromFine.2.1 33 = .ok (.invokevirtual 139, 3) ∧ 33 + 3 = 36 := ⟨by decide +kernel, rfl⟩
theorem g_X2_fillFromFine_33 : en_C M_X2_fillFromFine M_X1_copy 139 1 := ⟨⟨by decide +kernel, by decide +kernel, by decide +kernel⟩, ⟨by decide, by decide, by decide +kernel⟩, by decide, by decide⟩
theorem q_X2_fillFromFine_36 : decode M_X2_fillFromFine.2.1 36 = .ok (.aload_n 0, 1) ∧ 36 + 1 = 37 := ⟨by decide +kernel, rfl⟩
theorem q_X2_fillFromFine_37 : decode M_X2_fillFromFine.2.1 37 = .ok (.getfield 114, 3) ∧ 37 + 3 = 40 := ⟨by decide +kernel, rfl⟩
theorem q_X2_fillFromFine_40 : decode M_X2_fillFromFine.2.1 40 = .ok (.iconst 1, 1) ∧ 40 + 1 = 41 := ⟨by decide +kernel, rfl⟩
theorem q_X2_fillFromFine_41 : decode M_X2_fillFromFine.2.1 41 = .ok (.invokevirtual 160, 3) ∧ 41 + 3 = 44 := ⟨by decide +kernel, rfl⟩
theorem g_X2_fillFromFine_41 : en_C M_X2_fillFromFine M_X1_grow 160 1 := ⟨⟨by decide +kernel, by decide +kernel, by decide +kernel⟩, ⟨by decide, by decide, by decide +kernel⟩, by decide, by decide⟩
theorem q_X2_fillFromFine_44 : decode M_X2_fillFromFine.2.1 44 = .ok (.return_, 1) ∧ 44 + 1 = 45 := ⟨by decide +kernel, rfl⟩
theorem q_X2_fillSum_0 : decode M_X2_fillSum.2.1 0 = .ok (.aload_n 0, 1) ∧ 0 + 1 = 1 := ⟨by decide +kernel, rfl⟩
theorem q_X2_fillSum_1 : decode M_X2_fillSum.2.1 1 = .ok (.getfield 107, 3) ∧ 1 + 3 = 4 := ⟨by decide +kernel, rfl⟩
theorem q_X2_fillSum_4 : decode M_X2_fillSum.2.1 4 = .ok (.aload_n 1, 1) ∧ 4 + 1 = 5 := ⟨by decide +kernel, rfl⟩
theorem q_X2_fillSum_5 : decode M_X2_fillSum.2.1 5 = .ok (.getfield 107, 3) ∧ 5 + 3 = 8 := ⟨by decide +kernel, rfl⟩
theorem q_X2_fillSum_8 : decode M_X2_fillSum.2.1 8 = .ok (.invokevirtual 139, 3) ∧ 8 + 3 = 11 := ⟨by decide +kernel, rfl⟩
theorem g_X2_fillSum_8 : en_C M_X2_fillSum M_X1_copy 139 1 := ⟨⟨by decide +kernel, by decide +kernel, by decide +kernel⟩, ⟨by decide, by decide, by decide +kernel⟩, by decide, by decide⟩
theorem q_X2_fillSum_11 : decode M_X2_fillSum.2.1 11 = .ok (.aload_n 0, 1) ∧ 11 + 1 = 12 := ⟨by decide +kernel, rfl⟩
theorem q_X2_fillSum_12 : decode M_X2_fillSum.2.1 12 = .ok (.getfield 107, 3) ∧ 12 + 3 = 15 := ⟨by decide +kernel, rfl⟩
theorem q_X2_fillSum_15 : decode M_X2_fillSum.2.1 15 = .ok (.aload_n 2, 1) ∧ 15 + 1 = 16 := ⟨by decide +kernel, rfl⟩
theorem q_X2_fillSum_16 : decode M_X2_fillSum.2.1 16 = .ok (.getfield 107, 3) ∧ 16 + 3 = 19 := ⟨by decide +kernel, rfl⟩
theorem q_X2_fillSum_19 : decode M_X2_fillSum.2.1 19 = .ok (.invokevirtual 163, 3) ∧ 19 + 3 = 22 := ⟨by decide +kernel, rfl⟩
theorem g_X2_fillSum_19 : en_C M_X2_fillSum M_X1_add 163 1 := ⟨⟨by decide +kernel, by decide +kernel, by decide +kernel⟩, ⟨by decide, by decide, by decide +kernel⟩, by decide, by decide⟩
theorem q_X2_fillSum_22 : decode M_X2_fillSum.2.1 22 = .ok (.aload_n 0, 1) ∧ 22 + 1 = 23 := ⟨by decide +kernel, rfl⟩
theorem q_X2_fillSum_23 : decode M_X2_fillSum.2.1 23 = .ok (.getfield 114, 3) ∧ 23 + 3 = 26 := ⟨by decide +kernel, rfl⟩
theorem q_X2_fillSum_26 : decode M_X2_fillSum.2.1 26 = .ok (.aload_n 1, 1) ∧ 26 + 1 = 27 := ⟨by decide +kernel, rfl⟩
theorem q_X2_fillSum_27 : decode M_X2_fillSum.2.1 27 = .ok (.getfield 114, 3) ∧ 27 + 3 = 30 := ⟨by decide +kernel, rfl⟩
theorem q_X2_fillSum_30 : decode M_X2_fillSum.2.1 30 = .ok (.invokevirtual 139, 3) ∧ 30 + 3 = 33 := ⟨by decide +kernel, rfl⟩
theorem g_X2_fillSum_30 : en_C M_X2_fillSum M_X1_copy 139 1 := ⟨⟨by decide +kernel, by decide +kernel, by decide +kernel⟩, ⟨by decide, by decide, by decide +kernel⟩, by decide, by decide⟩
theorem q_X2_fillSum_33 : decode M_X2_fillSum.2.1 33 = .ok (.aload_n 0, 1) ∧ 33 + 1 = 34 := ⟨by decide +kernel, rfl⟩
theorem q_X2_fillSum_34 : decode M_X2_fillSum.2.1 34 = .ok (.getfield 114, 3) ∧ 34 + 3 = 37 := ⟨by decide +kernel, rfl⟩
theorem q_X2_fillSum_37 : decode M_X2_fillSum.2.1 37 = .ok (.aload_n 2, 1) ∧ 37 + 1 = 38 := ⟨by decide +kernel, rfl⟩
theorem q_X2_fillSum_38 : decode M_X2_fillSum.2.1 38 = .ok (.getfield 114, 3) ∧ 38 + 3 = 41 := ⟨by decide +kernel, rfl⟩
theorem q_X2_fillSum_41 : decode M_X2_fillSum.2.1 41 = .ok (.invokevirtual 163, 3) ∧ 41 + 3 = 44 := ⟨by decide +kernel, rfl⟩
theorem g_X2_fillSum_41 : en_C M_X2_fillSum M_X1_add 163 1 := ⟨⟨by decide +kernel, by decide +kernel, by decide +kernel⟩, ⟨by decide, by decide, by decide +kernel⟩, by decide, by decide⟩
theorem q_X2_fillSum_44 : decode M_X2_fillSum.2.1 44 = .ok (.return_, 1) ∧ 44 + 1 = 45 := ⟨by decide +kernel, rfl⟩
theorem q_X2_fillDifference_0 : decode M_X2_fillDifference.2.1 0 = .ok (.aload_n 0, 1) ∧ 0 + 1 = 1 := ⟨by decide +kernel, rfl⟩
theorem q_X2_fillDifference_1 : decode M_X2_fillDifference.2.1 1 = .ok (.getfield 107, 3) ∧ 1 + 3 = 4 := ⟨by decide +kernel, rfl⟩
theorem q_X2_fillDifference_4 : decode M_X2_fillDifference.2.1 4 = .ok (.aload_n 1, 1) ∧ 4 + 1 = 5 := ⟨by decide +kernel, rfl⟩
theorem q_X2_fillDifference_5 : decode M_X2_fillDifference.2.1 5 = .ok (.getfield 107, 3) ∧ 5 + 3 = 8 := ⟨by decide +kernel, rfl⟩
theorem q_X2_fillDifference_8 : decode M_X2_fillDifference.2.1 8 = .ok (.invokevirtual 139, 3) ∧ 8 + 3 = 11 := ⟨by decide +kernel, rfl⟩
theorem g_X2_fillDifference_8 : en_C M_X2_fillDifference M_X1_copy 139 1 := ⟨⟨by decide +kernel, by decide +kernel, by decide +kernel⟩, ⟨by decide, by decide, by decide +kernel⟩, by decide, by decide⟩
theorem q_X2_fillDifference_11 : decode M_X2_fillDifference.2.1 11 = .ok (.aload_n 0, 1) ∧ 11 + 1 = 12 := ⟨by decide +kernel, rfl⟩
theorem q_X2_fillDifference_12 : decode M_X2_fillDifference.2.1 12 = .ok (.getfield 107, 3) ∧ 12 + 3 = 15 := ⟨by decide +kernel, rfl⟩
theorem q_X2_fillDifference_15 : decode M_X2_fillDifference.2.1 15 = .ok (.aload_n 2, 1) ∧ 15 + 1 = 16 := ⟨by decide +kernel, rfl⟩
theorem q_X2_fillDifference_16 : decode M_X2_fillDifference.2.1 16 = .ok (.getfield 114, 3) ∧ 16 + 3 = 19 := ⟨by decide +kernel, rfl⟩
theorem q_X2_fillDifference_19 : decode M_X2_fillDifference.2.1 19 = .ok (.invokevirtual 166, 3) ∧ 19 + 3 = 22 := ⟨by decide +kernel, rfl⟩
theorem g_X2_fillDifference_19 : en_C M_X2_fillDifference M_X1_subtract 166 1 := ⟨⟨by decide +kernel, by decide +kernel, by decide +kernel⟩, ⟨by decide, by decide, by decide +kernel⟩, by decide, by decide⟩
theorem q_X2_fillDifference_22 : decode M_X2_fillDifference.2.1 22 = .ok (.aload_n 0, 1) ∧ 22 + 1 = 23 := ⟨by decide +kernel, rfl⟩
theorem q_X2_fillDifference_23 : decode M_X2_fillDifference.2.1 23 = .ok (.getfield 114, 3) ∧ 23 + 3 = 26 := ⟨by decide +kernel, rfl⟩
theorem q_X2_fillDifference_26 : decode M_X2_fillDifference.2.1 26 = .ok (.aload_n 1, 1) ∧ 26 + 1 = 27 := ⟨by decide +kernel, rfl⟩
theorem q_X2_fillDifference_27 : decode M_X2_fillDifference.2.1 27 = .ok (.getfield 114, 3) ∧ 27 + 3 = 30 := ⟨by decide +kernel, rfl⟩
theorem q_X2_fillDifference_30 : decode M_X2_fillDifference.2.1 30 = .ok (.invokevirtual 139, 3) ∧ 30 + 3 = 33 := ⟨by decide +kernel, rfl⟩
theorem g_X2_fillDifference_30 : en_C M_X2_fillDifference M_X1_copy 139 1 := ⟨⟨by decide +kernel, by decide +kernel, by decide +kernel⟩, ⟨by decide, by decide, by decide +kernel⟩, by decide, by decide⟩
theorem q_X2_fillDifference_33 : decode M_X2_fillDifference.2.1 33 = .ok (.aload_n 0, 1) ∧ 33 + 1 = 34 := ⟨by decide +kernel, rfl⟩
theorem q_X2_fillDifference_34 : decode M_X2_fillDifference.2.1 34 = .ok (.getfield 114, 3) ∧ 34 + 3 = 37 := ⟨by decide +kernel, rfl⟩
theorem q_X2_fillDifference_37 : decode M_X2_fillDifference.2.1 37 = .ok (.aload_n 2, 1) ∧ 37 + 1 = 38 := ⟨by decide +kernel, rfl⟩
theorem q_X2_fillDifference_38 : decode M_X2_fillDifference.2.1 38 = .ok (.getfield 107, 3) ∧ 38 + 3 = 41 := ⟨by decide +kernel, rfl⟩
theorem q_X2_fillDifference_41 : decode M_X2_fillDifference.2.1 41 = .ok (.invokevirtual 166, 3) ∧ 41 + 3 = 44 := ⟨by decide +kernel, rfl⟩
theorem g_X2_fillDifference_41 : en_C M_X2_fillDifference M_X1_subtract 166 1 := ⟨⟨by decide +kernel, by decide +kernel, by decide +kernel⟩, ⟨by decide, by decide, by decide +kernel⟩, by decide, by decide⟩
theorem q_X2_fillDifference_44 : decode M_X2_fillDifference.2.1 44 = .ok (.return_, 1) ∧ 44 + 1 = 45 := ⟨by decide +kernel, rfl⟩
theorem q_X2_fillRoot_0 : decode M_X2_fillRoot.2.1 0 = .ok (.aload_n 2, 1) ∧ 0 + 1 = 1 := ⟨by decide +kernel, rfl⟩
theorem q_X2_fillRoot_1 : decode M_X2_fillRoot.2.1 1 = .ok (.getfield 114, 3) ∧ 1 + 3 = 4 := ⟨by decide +kernel, rfl⟩
theorem q_X2_fillRoot_4 : decode M_X2_fillRoot.2.1 4 = .ok (.getfield 169, 3) ∧ 4 + 3 = 7 := ⟨by decide +kernel, rfl⟩
theorem f_RX2_169 : en_F RX2 169 1 0 := ⟨RX1, TX1, 3, rfl, by decide, rfl, by decide +kernel, by decide +kernel⟩
theorem q_X2_fillRoot_7 : decode M_X2_fillRoot.2.1 7 = .ok (.ifCond .ge 9, 3) ∧ 7 + 3 = 10 ∧ ((7 : Nat) : Int) + 9 = ((16 : Nat) : Int) := ⟨by decide +kernel, rfl, rfl⟩
theorem q_X2_fillRoot_10 : decode M_X2_fillRoot.2.1 10 = .ok (.aload_n 1, 1) ∧ 10 + 1 = 11 := ⟨by decide +kernel, rfl⟩
theorem q_X2_fillRoot_11 : decode M_X2_fillRoot.2.1 11 = .ok (.iconst 1, 1) ∧ 11 + 1 = 12 := ⟨by decide +kernel, rfl⟩
theorem q_X2_fillRoot_12 : decode M_X2_fillRoot.2.1 12 = .ok (.putfield 75, 3) ∧ 12 + 3 = 15 := ⟨by decide +kernel, rfl⟩
theorem q_X2_fillRoot_15 : decode M_X2_fillRoot.2.1 15 = .ok (.return_, 1) ∧ 15 + 1 = 16 := ⟨by decide +kernel, rfl⟩
theorem q_X2_fillRoot_16 : decode M_X2_fillRoot.2.1 16 = .ok (.aload_n 0, 1) ∧ 16 + 1 = 17 := ⟨by decide +kernel, rfl⟩
theorem q_X2_fillRoot_17 : decode M_X2_fillRoot.2.1 17 = .ok (.getfield 35, 3) ∧ 17 + 3 = 20 := ⟨by decide +kernel, rfl⟩
theorem q_X2_fillRoot_20 : decode M_X2_fillRoot.2.1 20 = .ok (.aload_n 2, 1) ∧ 20 + 1 = 21 := ⟨by decide +kernel, rfl⟩
theorem q_X2_fillRoot_21 : decode M_X2_fillRoot.2.1 21 = .ok (.getfield 107, 3) ∧ 21 + 3 = 24 := ⟨by decide +kernel, rfl⟩
theorem q_X2_fillRoot_24 : decode M_X2_fillRoot.2.1 24 = .ok (.invokevirtual 139, 3) ∧ 24 + 3 = 27 := ⟨by decide +kernel, rfl⟩
theorem g_X2_fillRoot_24 : en_C M_X2_fillRoot M_X1_copy 139 1 := ⟨⟨by decide +kernel, by decide +kernel, by decide +kernel⟩, ⟨by decide, by decide, by decide +kernel⟩, by decide, by decide⟩
theorem q_X2_fillRoot_27 : decode M_X2_fillRoot.2.1 27 = .ok (.aload_n 0, 1) ∧ 27 + 1 = 28 := ⟨by decide +kernel, rfl⟩
theorem q_X2_fillRoot_28 : decode M_X2_fillRoot.2.1 28 = .ok (.getfield 35, 3) ∧ 28 + 3 = 31 := ⟨by decide +kernel, rfl⟩
theorem q_X2_fillRoot_31 : decode M_X2_fillRoot.2.1 31 = .ok (.iload_n 3, 1) ∧ 31 + 1 = 32 := ⟨by decide +kernel, rfl⟩
theorem q_X2_fillRoot_32 : decode M_X2_fillRoot.2.1 32 = .ok (.invokevirtual 135, 3) ∧ 32 + 3 = 35 := ⟨by decide +kernel, rfl⟩
theorem g_X2_fillRoot_32 : en_C M_X2_fillRoot M_X1_shiftUp 135 1 := ⟨⟨by decide +kernel, by decide +kernel, by decide +kernel⟩, ⟨by decide, by decide, by decide +kernel⟩, by decide, by decide⟩
theorem q_X2_fillRoot_35 : decode M_X2_fillRoot.2.1 35 = .ok (.aload_n 0, 1) ∧ 35 + 1 = 36 := ⟨by decide +kernel, rfl⟩
theorem q_X2_fillRoot_36 : decode M_X2_fillRoot.2.1 36 = .ok (.getfield 12, 3) ∧ 36 + 3 = 39 := ⟨by decide +kernel, rfl⟩
theorem f_RX2_12 : en_F RX2 12 2 0 := ⟨RX2, TX2, 7, rfl, by decide, rfl, by decide +kernel, by decide +kernel⟩
theorem q_X2_fillRoot_39 : decode M_X2_fillRoot.2.1 39 = .ok (.aload_n 0, 1) ∧ 39 + 1 = 40 := ⟨by decide +kernel, rfl⟩
theorem q_X2_fillRoot_40 : decode M_X2_fillRoot.2.1 40 = .ok (.getfield 35, 3) ∧ 40 + 3 = 43 := ⟨by decide +kernel, rfl⟩
theorem q_X2_fillRoot_43 : decode M_X2_fillRoot.2.1 43 = .ok (.aload_n 1, 1) ∧ 43 + 1 = 44 := ⟨by decide +kernel, rfl⟩
theorem q_X2_fillRoot_44 : decode M_X2_fillRoot.2.1 44 = .ok (.getfield 107, 3) ∧ 44 + 3 = 47 := ⟨by decide +kernel, rfl⟩
theorem q_X2_fillRoot_47 : decode M_X2_fillRoot.2.1 47 = .ok (.invokevirtual 172, 3) ∧ 47 + 3 = 50 := ⟨by decide +kernel, rfl⟩
theorem g_X2_fillRoot_47 : en_C M_X2_fillRoot M_X0_squareRoot 172 2 := ⟨⟨by decide +kernel, by decide +kernel, by decide +kernel⟩, ⟨by decide, by decide, by decide +kernel⟩, by decide, by decide⟩
theorem w_X0_squareRoot : Cond.instanceMethod M_X0_squareRoot.1 ∈ en_tbl ∧ Cond.selects M_X0_squareRoot.1.cls M_X0_squareRoot.1 M_X0_squareRoot.1 ∈ en_tbl := ⟨by decide +kernel, by decide +kernel⟩
theorem q_X2_fillRoot_50 : decode M_X2_fillRoot.2.1 50 = .ok (.istore 4, 2) ∧ 50 + 2 = 52 := ⟨by decide +kernel, rfl⟩
theorem q_X2_fillRoot_52 : decode M_X2_fillRoot.2.1 52 = .ok (.aload_n 1, 1) ∧ 52 + 1 = 53 := ⟨by decide +kernel, rfl⟩
theorem q_X2_fillRoot_53 : decode M_X2_fillRoot.2.1 53 = .ok (.getfield 114, 3) ∧ 53 + 3 = 56 := ⟨by decide +kernel, rfl⟩
theorem q_X2_fillRoot_56 : decode M_X2_fillRoot.2.1 56 = .ok (.aload_n 1, 1) ∧ 56 + 1 = 57 := ⟨by decide +kernel, rfl⟩
theorem q_X2_fillRoot_57 : decode M_X2_fillRoot.2.1 57 = .ok (.getfield 107, 3) ∧ 57 + 3 = 60 := ⟨by decide +kernel, rfl⟩
theorem q_X2_fillRoot_60 : decode M_X2_fillRoot.2.1 60 = .ok (.invokevirtual 139, 3) ∧ 60 + 3 = 63 := ⟨by decide +kernel, rfl⟩
theorem g_X2_fillRoot_60 : en_C M_X2_fillRoot M_X1_copy 139 1 := ⟨⟨by decide +kernel, by decide +kernel, by decide +kernel⟩, ⟨by decide, by decide, by decide +kernel⟩, by decide, by decide⟩
theorem q_X2_fillRoot_63 : decode M_X2_fillRoot.2.1 63 = .ok (.aload_n 2, 1) ∧ 63 + 1 = 64 := ⟨by decide +kernel, rfl⟩
theorem q_X2_fillRoot_64 : decode M_X2_fillRoot.2.1 64 = .ok (.invokestatic 176, 3) ∧ 64 + 3 = 67 := ⟨by decide +kernel, rfl⟩
theorem g_X2_fillRoot_64 : en_C M_X2_fillRoot M_X2_isExact 176 1 := ⟨⟨by decide +kernel, by decide +kernel, by decide +kernel⟩, ⟨by decide, by decide, by decide +kernel⟩, by decide, by decide⟩
theorem w_X2_isExact : Cond.static M_X2_isExact.1 ∈ en_tbl := by decide +kernel
theorem q_X2_fillRoot_67 : decode M_X2_fillRoot.2.1 67 = .ok (.ifCond .ne 39, 3) ∧ 67 + 3 = 70 ∧ ((67 : Nat) : Int) + 39 = ((106 : Nat) : Int) := ⟨by decide +kernel, rfl, rfl⟩
theorem q_X2_fillRoot_70 : decode M_X2_fillRoot.2.1 70 = .ok (.aload_n 0, 1) ∧ 70 + 1 = 71 := ⟨by decide +kernel, rfl⟩
theorem q_X2_fillRoot_71 : decode M_X2_fillRoot.2.1 71 = .ok (.getfield 35, 3) ∧ 71 + 3 = 74 := ⟨by decide +kernel, rfl⟩
theorem q_X2_fillRoot_74 : decode M_X2_fillRoot.2.1 74 = .ok (.aload_n 2, 1) ∧ 74 + 1 = 75 := ⟨by decide +kernel, rfl⟩
theorem q_X2_fillRoot_75 : decode M_X2_fillRoot.2.1 75 = .ok (.getfield 114, 3) ∧ 75 + 3 = 78 := ⟨by decide +kernel, rfl⟩
theorem q_X2_fillRoot_78 : decode M_X2_fillRoot.2.1 78 = .ok (.invokevirtual 139, 3) ∧ 78 + 3 = 81 := ⟨by decide +kernel, rfl⟩
theorem g_X2_fillRoot_78 : en_C M_X2_fillRoot M_X1_copy 139 1 := ⟨⟨by decide +kernel, by decide +kernel, by decide +kernel⟩, ⟨by decide, by decide, by decide +kernel⟩, by decide, by decide⟩
theorem q_X2_fillRoot_81 : decode M_X2_fillRoot.2.1 81 = .ok (.aload_n 0, 1) ∧ 81 + 1 = 82 := ⟨by decide +kernel, rfl⟩
theorem q_X2_fillRoot_82 : decode M_X2_fillRoot.2.1 82 = .ok (.getfield 35, 3) ∧ 82 + 3 = 85 := ⟨by decide +kernel, rfl⟩
theorem q_X2_fillRoot_85 : decode M_X2_fillRoot.2.1 85 = .ok (.iload_n 3, 1) ∧ 85 + 1 = 86 := ⟨by decide +kernel, rfl⟩
theorem q_X2_fillRoot_86 : decode M_X2_fillRoot.2.1 86 = .ok (.invokevirtual 135, 3) ∧ 86 + 3 = 89 := ⟨by decide +kernel, rfl⟩
theorem g_X2_fillRoot_86 : en_C M_X2_fillRoot M_X1_shiftUp 135 1 := ⟨⟨by decide +kernel, by decide +kernel, by decide +kernel⟩, ⟨by decide, by decide, by decide +kernel⟩, by decide, by decide⟩
theorem q_X2_fillRoot_89 : decode M_X2_fillRoot.2.1 89 = .ok (.aload_n 0, 1) ∧ 89 + 1 = 90 := ⟨by decide +kernel, rfl⟩
theorem q_X2_fillRoot_90 : decode M_X2_fillRoot.2.1 90 = .ok (.getfield 12, 3) ∧ 90 + 3 = 93 := ⟨by decide +kernel, rfl⟩
theorem q_X2_fillRoot_93 : decode M_X2_fillRoot.2.1 93 = .ok (.aload_n 0, 1) ∧ 93 + 1 = 94 := ⟨by decide +kernel, rfl⟩
theorem q_X2_fillRoot_94 : decode M_X2_fillRoot.2.1 94 = .ok (.getfield 35, 3) ∧ 94 + 3 = 97 := ⟨by decide +kernel, rfl⟩
theorem q_X2_fillRoot_97 : decode M_X2_fillRoot.2.1 97 = .ok (.aload_n 1, 1) ∧ 97 + 1 = 98 := ⟨by decide +kernel, rfl⟩
theorem q_X2_fillRoot_98 : decode M_X2_fillRoot.2.1 98 = .ok (.getfield 114, 3) ∧ 98 + 3 = 101 := ⟨by decide +kernel, rfl⟩
theorem q_X2_fillRoot_101 : decode M_X2_fillRoot.2.1 101 = .ok (.invokevirtual 172, 3) ∧ 101 + 3 = 104 := ⟨by decide +kernel, rfl⟩
theorem g_X2_fillRoot_101 : en_C M_X2_fillRoot M_X0_squareRoot 172 2 := ⟨⟨by decide +kernel, by decide +kernel, by decide +kernel⟩, ⟨by decide, by decide, by decide +kernel⟩, by decide, by decide⟩
theorem q_X2_fillRoot_104 : decode M_X2_fillRoot.2.1 104 = .ok (.istore 4, 2) ∧ 104 + 2 = 106 := ⟨by decide +kernel, rfl⟩
theorem q_X2_fillRoot_106 : decode M_X2_fillRoot.2.1 106 = .ok (.iload 4, 2) ∧ 106 + 2 = 108 := ⟨by decide +kernel, rfl⟩
theorem q_X2_fillRoot_108 : decode M_X2_fillRoot.2.1 108 = .ok (.ifCond .eq 11, 3) ∧ 108 + 3 = 111 ∧ ((108 : Nat) : Int) + 11 = ((119 : Nat) : Int) := ⟨by decide +kernel, rfl, rfl⟩
theorem q_X2_fillRoot_111 : decode M_X2_fillRoot.2.1 111 = .ok (.aload_n 1, 1) ∧ 111 + 1 = 112 := ⟨by decide +kernel, rfl⟩
theorem q_X2_fillRoot_112 : decode M_X2_fillRoot.2.1 112 = .ok (.getfield 114, 3) ∧ 112 + 3 = 115 := ⟨by decide +kernel, rfl⟩
theorem q_X2_fillRoot_115 : decode M_X2_fillRoot.2.1 115 = .ok (.iconst 1, 1) ∧ 115 + 1 = 116 := ⟨by decide +kernel, rfl⟩
theorem q_X2_fillRoot_116 : decode M_X2_fillRoot.2.1 116 = .ok (.invokevirtual 160, 3) ∧ 116 + 3 = 119 := ⟨by decide +kernel, rfl⟩
theorem g_X2_fillRoot_116 : en_C M_X2_fillRoot M_X1_grow 160 1 := ⟨⟨by decide +kernel, by decide +kernel, by decide +kernel⟩, ⟨by decide, by decide, by decide +kernel⟩, by decide, by decide⟩
theorem q_X2_fillRoot_119 : decode M_X2_fillRoot.2.1 119 = .ok (.return_, 1) ∧ 119 + 1 = 120 := ⟨by decide +kernel, rfl⟩
theorem q_X2_fillCorners_0 : decode M_X2_fillCorners.2.1 0 = .ok (.aload_n 1, 1) ∧ 0 + 1 = 1 := ⟨by decide +kernel, rfl⟩
theorem q_X2_fillCorners_1 : decode M_X2_fillCorners.2.1 1 = .ok (.getfield 68, 3) ∧ 1 + 3 = 4 := ⟨by decide +kernel, rfl⟩
theorem q_X2_fillCorners_4 : decode M_X2_fillCorners.2.1 4 = .ok (.bipush 8, 2) ∧ 4 + 2 = 6 := ⟨by decide +kernel, rfl⟩
theorem q_X2_fillCorners_6 : decode M_X2_fillCorners.2.1 6 = .ok (.if_icmp .eq 7, 3) ∧ 6 + 3 = 9 ∧ ((6 : Nat) : Int) + 7 = ((13 : Nat) : Int) := ⟨by decide +kernel, rfl, rfl⟩
theorem q_X2_fillCorners_9 : decode M_X2_fillCorners.2.1 9 = .ok (.iconst 1, 1) ∧ 9 + 1 = 10 := ⟨by decide +kernel, rfl⟩
theorem q_X2_fillCorners_10 : decode M_X2_fillCorners.2.1 10 = .ok (.goto 4, 3) ∧ 10 + 3 = 13 ∧ ((10 : Nat) : Int) + 4 = ((14 : Nat) : Int) := ⟨by decide +kernel, rfl, rfl⟩
theorem q_X2_fillCorners_13 : decode M_X2_fillCorners.2.1 13 = .ok (.iconst 0, 1) ∧ 13 + 1 = 14 := ⟨by decide +kernel, rfl⟩
theorem q_X2_fillCorners_14 : decode M_X2_fillCorners.2.1 14 = .ok (.istore 5, 2) ∧ 14 + 2 = 16 := ⟨by decide +kernel, rfl⟩
theorem q_X2_fillCorners_16 : decode M_X2_fillCorners.2.1 16 = .ok (.iload 5, 2) ∧ 16 + 2 = 18 := ⟨by decide +kernel, rfl⟩
theorem q_X2_fillCorners_18 : decode M_X2_fillCorners.2.1 18 = .ok (.ifCond .eq 29, 3) ∧ 18 + 3 = 21 ∧ ((18 : Nat) : Int) + 29 = ((47 : Nat) : Int) := ⟨by decide +kernel, rfl, rfl⟩
theorem q_X2_fillCorners_21 : decode M_X2_fillCorners.2.1 21 = .ok (.aload_n 3, 1) ∧ 21 + 1 = 22 := ⟨by decide +kernel, rfl⟩
theorem q_X2_fillCorners_22 : decode M_X2_fillCorners.2.1 22 = .ok (.getfield 107, 3) ∧ 22 + 3 = 25 := ⟨by decide +kernel, rfl⟩
theorem q_X2_fillCorners_25 : decode M_X2_fillCorners.2.1 25 = .ok (.getfield 169, 3) ∧ 25 + 3 = 28 := ⟨by decide +kernel, rfl⟩
theorem q_X2_fillCorners_28 : decode M_X2_fillCorners.2.1 28 = .ok (.ifCond .gt 19, 3) ∧ 28 + 3 = 31 ∧ ((28 : Nat) : Int) + 19 = ((47 : Nat) : Int) := ⟨by decide +kernel, rfl, rfl⟩
theorem q_X2_fillCorners_31 : decode M_X2_fillCorners.2.1 31 = .ok (.aload_n 3, 1) ∧ 31 + 1 = 32 := ⟨by decide +kernel, rfl⟩
theorem q_X2_fillCorners_32 : decode M_X2_fillCorners.2.1 32 = .ok (.getfield 114, 3) ∧ 32 + 3 = 35 := ⟨by decide +kernel, rfl⟩
theorem q_X2_fillCorners_35 : decode M_X2_fillCorners.2.1 35 = .ok (.getfield 169, 3) ∧ 35 + 3 = 38 := ⟨by decide +kernel, rfl⟩
theorem q_X2_fillCorners_38 : decode M_X2_fillCorners.2.1 38 = .ok (.ifCond .lt 9, 3) ∧ 38 + 3 = 41 ∧ ((38 : Nat) : Int) + 9 = ((47 : Nat) : Int) := ⟨by decide +kernel, rfl, rfl⟩
theorem q_X2_fillCorners_41 : decode M_X2_fillCorners.2.1 41 = .ok (.aload_n 1, 1) ∧ 41 + 1 = 42 := ⟨by decide +kernel, rfl⟩
theorem q_X2_fillCorners_42 : decode M_X2_fillCorners.2.1 42 = .ok (.iconst 1, 1) ∧ 42 + 1 = 43 := ⟨by decide +kernel, rfl⟩
theorem q_X2_fillCorners_43 : decode M_X2_fillCorners.2.1 43 = .ok (.putfield 75, 3) ∧ 43 + 3 = 46 := ⟨by decide +kernel, rfl⟩
theorem q_X2_fillCorners_46 : decode M_X2_fillCorners.2.1 46 = .ok (.return_, 1) ∧ 46 + 1 = 47 := ⟨by decide +kernel, rfl⟩
theorem q_X2_fillCorners_47 : decode M_X2_fillCorners.2.1 47 = .ok (.aload_n 2, 1) ∧ 47 + 1 = 48 := ⟨by decide +kernel, rfl⟩
theorem q_X2_fillCorners_48 : decode M_X2_fillCorners.2.1 48 = .ok (.invokestatic 176, 3) ∧ 48 + 3 = 51 := ⟨by decide +kernel, rfl⟩
theorem g_X2_fillCorners_48 : en_C M_X2_fillCorners M_X2_isExact 176 1 := ⟨⟨by decide +kernel, by decide +kernel, by decide +kernel⟩, ⟨by decide, by decide, by decide +kernel⟩, by decide, by decide⟩
theorem q_X2_fillCorners_51 : decode M_X2_fillCorners.2.1 51 = .ok (.ifCond .eq 7, 3) ∧ 51 + 3 = 54 ∧ ((51 : Nat) : Int) + 7 = ((58 : Nat) : Int) := ⟨by decide +kernel, rfl, rfl⟩
theorem q_X2_fillCorners_54 : decode M_X2_fillCorners.2.1 54 = .ok (.iconst 1, 1) ∧ 54 + 1 = 55 := ⟨by decide +kernel, rfl⟩
theorem q_X2_fillCorners_55 : decode M_X2_fillCorners.2.1 55 = .ok (.goto 4, 3) ∧ 55 + 3 = 58 ∧ ((55 : Nat) : Int) + 4 = ((59 : Nat) : Int) := ⟨by decide +kernel, rfl, rfl⟩
theorem q_X2_fillCorners_58 : decode M_X2_fillCorners.2.1 58 = .ok (.iconst 2, 1) ∧ 58 + 1 = 59 := ⟨by decide +kernel, rfl⟩
theorem q_X2_fillCorners_59 : decode M_X2_fillCorners.2.1 59 = .ok (.istore 6, 2) ∧ 59 + 2 = 61 := ⟨by decide +kernel, rfl⟩
theorem q_X2_fillCorners_61 : decode M_X2_fillCorners.2.1 61 = .ok (.aload_n 3, 1) ∧ 61 + 1 = 62 := ⟨by decide +kernel, rfl⟩
theorem q_X2_fillCorners_62 : decode M_X2_fillCorners.2.1 62 = .ok (.invokestatic 176, 3) ∧ 62 + 3 = 65 := ⟨by decide +kernel, rfl⟩
theorem g_X2_fillCorners_62 : en_C M_X2_fillCorners M_X2_isExact 176 1 := ⟨⟨by decide +kernel, by decide +kernel, by decide +kernel⟩, ⟨by decide, by decide, by decide +kernel⟩, by decide, by decide⟩
theorem q_X2_fillCorners_65 : decode M_X2_fillCorners.2.1 65 = .ok (.ifCond .eq 7, 3) ∧ 65 + 3 = 68 ∧ ((65 : Nat) : Int) + 7 = ((72 : Nat) : Int) := ⟨by decide +kernel, rfl, rfl⟩
theorem q_X2_fillCorners_68 : decode M_X2_fillCorners.2.1 68 = .ok (.iconst 1, 1) ∧ 68 + 1 = 69 := ⟨by decide +kernel, rfl⟩
theorem q_X2_fillCorners_69 : decode M_X2_fillCorners.2.1 69 = .ok (.goto 4, 3) ∧ 69 + 3 = 72 ∧ ((69 : Nat) : Int) + 4 = ((73 : Nat) : Int) := ⟨by decide +kernel, rfl, rfl⟩
theorem q_X2_fillCorners_72 : decode M_X2_fillCorners.2.1 72 = .ok (.iconst 2, 1) ∧ 72 + 1 = 73 := ⟨by decide +kernel, rfl⟩
theorem q_X2_fillCorners_73 : decode M_X2_fillCorners.2.1 73 = .ok (.istore 7, 2) ∧ 73 + 2 = 75 := ⟨by decide +kernel, rfl⟩
theorem q_X2_fillCorners_75 : decode M_X2_fillCorners.2.1 75 = .ok (.iconst 0, 1) ∧ 75 + 1 = 76 := ⟨by decide +kernel, rfl⟩
theorem q_X2_fillCorners_76 : decode M_X2_fillCorners.2.1 76 = .ok (.istore 8, 2) ∧ 76 + 2 = 78 := ⟨by decide +kernel, rfl⟩
theorem q_X2_fillCorners_78 : decode M_X2_fillCorners.2.1 78 = .ok (.iload 8, 2) ∧ 78 + 2 = 80 := ⟨by decide +kernel, rfl⟩
theorem q_X2_fillCorners_80 : decode M_X2_fillCorners.2.1 80 = .ok (.iload 6, 2) ∧ 80 + 2 = 82 := ⟨by decide +kernel, rfl⟩
theorem q_X2_fillCorners_82 : decode M_X2_fillCorners.2.1 82 = .ok (.if_icmp .ge 173, 3) ∧ 82 + 3 = 85 ∧ ((82 : Nat) : Int) + 173 = ((255 : Nat) : Int) := ⟨by decide +kernel, rfl, rfl⟩
theorem q_X2_fillCorners_85 : decode M_X2_fillCorners.2.1 85 = .ok (.iconst 0, 1) ∧ 85 + 1 = 86 := ⟨by decide +kernel, rfl⟩
theorem q_X2_fillCorners_86 : decode M_X2_fillCorners.2.1 86 = .ok (.istore 9, 2) ∧ 86 + 2 = 88 := ⟨by decide +kernel, rfl⟩
theorem q_X2_fillCorners_88 : decode M_X2_fillCorners.2.1 88 = .ok (.iload 9, 2) ∧ 88 + 2 = 90 := ⟨by decide +kernel, rfl⟩
theorem q_X2_fillCorners_90 : decode M_X2_fillCorners.2.1 90 = .ok (.iload 7, 2) ∧ 90 + 2 = 92 := ⟨by decide +kernel, rfl⟩
theorem q_X2_fillCorners_92 : decode M_X2_fillCorners.2.1 92 = .ok (.if_icmp .ge 157, 3) ∧ 92 + 3 = 95 ∧ ((92 : Nat) : Int) + 157 = ((249 : Nat) : Int) := ⟨by decide +kernel, rfl, rfl⟩
theorem q_X2_fillCorners_95 : decode M_X2_fillCorners.2.1 95 = .ok (.iload 8, 2) ∧ 95 + 2 = 97 := ⟨by decide +kernel, rfl⟩
theorem q_X2_fillCorners_97 : decode M_X2_fillCorners.2.1 97 = .ok (.ifCond .ne 10, 3) ∧ 97 + 3 = 100 ∧ ((97 : Nat) : Int) + 10 = ((107 : Nat) : Int) := ⟨by decide +kernel, rfl, rfl⟩
theorem q_X2_fillCorners_100 : decode M_X2_fillCorners.2.1 100 = .ok (.aload_n 2, 1) ∧ 100 + 1 = 101 := ⟨by decide +kernel, rfl⟩
theorem q_X2_fillCorners_101 : decode M_X2_fillCorners.2.1 101 = .ok (.getfield 107, 3) ∧ 101 + 3 = 104 := ⟨by decide +kernel, rfl⟩
theorem q_X2_fillCorners_104 : decode M_X2_fillCorners.2.1 104 = .ok (.goto 7, 3) ∧ 104 + 3 = 107 ∧ ((104 : Nat) : Int) + 7 = ((111 : Nat) : Int) := ⟨by decide +kernel, rfl, rfl⟩
theorem q_X2_fillCorners_107 : decode M_X2_fillCorners.2.1 107 = .ok (.aload_n 2, 1) ∧ 107 + 1 = 108 := ⟨by decide +kernel, rfl⟩
theorem q_X2_fillCorners_108 : decode M_X2_fillCorners.2.1 108 = .ok (.getfield 114, 3) ∧ 108 + 3 = 111 := ⟨by decide +kernel, rfl⟩
theorem q_X2_fillCorners_111 : decode M_X2_fillCorners.2.1 111 = .ok (.astore 10, 2) ∧ 111 + 2 = 113 := ⟨by decide +kernel, rfl⟩
theorem q_X2_fillCorners_113 : decode M_X2_fillCorners.2.1 113 = .ok (.iload 9, 2) ∧ 113 + 2 = 115 := ⟨by decide +kernel, rfl⟩
theorem q_X2_fillCorners_115 : decode M_X2_fillCorners.2.1 115 = .ok (.ifCond .ne 10, 3) ∧ 115 + 3 = 118 ∧ ((115 : Nat) : Int) + 10 = ((125 : Nat) : Int) := ⟨by decide +kernel, rfl, rfl⟩
theorem q_X2_fillCorners_118 : decode M_X2_fillCorners.2.1 118 = .ok (.aload_n 3, 1) ∧ 118 + 1 = 119 := ⟨by decide +kernel, rfl⟩
theorem q_X2_fillCorners_119 : decode M_X2_fillCorners.2.1 119 = .ok (.getfield 107, 3) ∧ 119 + 3 = 122 := ⟨by decide +kernel, rfl⟩
theorem q_X2_fillCorners_122 : decode M_X2_fillCorners.2.1 122 = .ok (.goto 7, 3) ∧ 122 + 3 = 125 ∧ ((122 : Nat) : Int) + 7 = ((129 : Nat) : Int) := ⟨by decide +kernel, rfl, rfl⟩
theorem q_X2_fillCorners_125 : decode M_X2_fillCorners.2.1 125 = .ok (.aload_n 3, 1) ∧ 125 + 1 = 126 := ⟨by decide +kernel, rfl⟩
theorem q_X2_fillCorners_126 : decode M_X2_fillCorners.2.1 126 = .ok (.getfield 114, 3) ∧ 126 + 3 = 129 := ⟨by decide +kernel, rfl⟩
theorem q_X2_fillCorners_129 : decode M_X2_fillCorners.2.1 129 = .ok (.astore 11, 2) ∧ 129 + 2 = 131 := ⟨by decide +kernel, rfl⟩
theorem q_X2_fillCorners_131 : decode M_X2_fillCorners.2.1 131 = .ok (.iload 5, 2) ∧ 131 + 2 = 133 := ⟨by decide +kernel, rfl⟩
theorem q_X2_fillCorners_133 : decode M_X2_fillCorners.2.1 133 = .ok (.ifCond .eq 34, 3) ∧ 133 + 3 = 136 ∧ ((133 : Nat) : Int) + 34 = ((167 : Nat) : Int) := ⟨by decide +kernel, rfl, rfl⟩
theorem q_X2_fillCorners_136 : decode M_X2_fillCorners.2.1 136 = .ok (.aload_n 0, 1) ∧ 136 + 1 = 137 := ⟨by decide +kernel, rfl⟩
theorem q_X2_fillCorners_137 : decode M_X2_fillCorners.2.1 137 = .ok (.getfield 35, 3) ∧ 137 + 3 = 140 := ⟨by decide +kernel, rfl⟩
theorem q_X2_fillCorners_140 : decode M_X2_fillCorners.2.1 140 = .ok (.aload 10, 2) ∧ 140 + 2 = 142 := ⟨by decide +kernel, rfl⟩
theorem q_X2_fillCorners_142 : decode M_X2_fillCorners.2.1 142 = .ok (.invokevirtual 139, 3) ∧ 142 + 3 = 145 := ⟨by decide +kernel, rfl⟩
theorem g_X2_fillCorners_142 : en_C M_X2_fillCorners M_X1_copy 139 1 := ⟨⟨by decide +kernel, by decide +kernel, by decide +kernel⟩, ⟨by decide, by decide, by decide +kernel⟩, by decide, by decide⟩
theorem q_X2_fillCorners_145 : decode M_X2_fillCorners.2.1 145 = .ok (.aload_n 0, 1) ∧ 145 + 1 = 146 := ⟨by decide +kernel, rfl⟩
theorem q_X2_fillCorners_146 : decode M_X2_fillCorners.2.1 146 = .ok (.getfield 35, 3) ∧ 146 + 3 = 149 := ⟨by decide +kernel, rfl⟩
theorem q_X2_fillCorners_149 : decode M_X2_fillCorners.2.1 149 = .ok (.iload 4, 2) ∧ 149 + 2 = 151 := ⟨by decide +kernel, rfl⟩
theorem q_X2_fillCorners_151 : decode M_X2_fillCorners.2.1 151 = .ok (.invokevirtual 135, 3) ∧ 151 + 3 = 154 := ⟨by decide +kernel, rfl⟩
theorem g_X2_fillCorners_151 : en_C M_X2_fillCorners M_X1_shiftUp 135 1 := ⟨⟨by decide +kernel, by decide +kernel, by decide +kernel⟩, ⟨by decide, by decide, by decide +kernel⟩, by decide, by decide⟩
theorem q_X2_fillCorners_154 : decode M_X2_fillCorners.2.1 154 = .ok (.aload_n 0, 1) ∧ 154 + 1 = 155 := ⟨by decide +kernel, rfl⟩
theorem q_X2_fillCorners_155 : decode M_X2_fillCorners.2.1 155 = .ok (.aload_n 0, 1) ∧ 155 + 1 = 156 := ⟨by decide +kernel, rfl⟩
theorem q_X2_fillCorners_156 : decode M_X2_fillCorners.2.1 156 = .ok (.getfield 35, 3) ∧ 156 + 3 = 159 := ⟨by decide +kernel, rfl⟩
theorem q_X2_fillCorners_159 : decode M_X2_fillCorners.2.1 159 = .ok (.aload 11, 2) ∧ 159 + 2 = 161 := ⟨by decide +kernel, rfl⟩
theorem q_X2_fillCorners_161 : decode M_X2_fillCorners.2.1 161 = .ok (.invokevirtual 146, 3) ∧ 161 + 3 = 164 := ⟨by decide +kernel, rfl⟩
theorem g_X2_fillCorners_161 : en_C M_X2_fillCorners M_X2_divideBothWays 146 2 := ⟨⟨by decide +kernel, by decide +kernel, by decide +kernel⟩, ⟨by decide, by decide, by decide +kernel⟩, by decide, by decide⟩
theorem q_X2_fillCorners_164 : decode M_X2_fillCorners.2.1 164 = .ok (.goto 13, 3) ∧ 164 + 3 = 167 ∧ ((164 : Nat) : Int) + 13 = ((177 : Nat) : Int) := ⟨by decide +kernel, rfl, rfl⟩
theorem q_X2_fillCorners_167 : decode M_X2_fillCorners.2.1 167 = .ok (.aload_n 0, 1) ∧ 167 + 1 = 168 := ⟨by decide +kernel, rfl⟩
theorem q_X2_fillCorners_168 : decode M_X2_fillCorners.2.1 168 = .ok (.aload 10, 2) ∧ 168 + 2 = 170 := ⟨by decide +kernel, rfl⟩
theorem q_X2_fillCorners_170 : decode M_X2_fillCorners.2.1 170 = .ok (.aload 11, 2) ∧ 170 + 2 = 172 := ⟨by decide +kernel, rfl⟩
theorem q_X2_fillCorners_172 : decode M_X2_fillCorners.2.1 172 = .ok (.iload 4, 2) ∧ 172 + 2 = 174 := ⟨by decide +kernel, rfl⟩
theorem q_X2_fillCorners_174 : decode M_X2_fillCorners.2.1 174 = .ok (.invokevirtual 179, 3) ∧ 174 + 3 = 177 := ⟨by decide +kernel, rfl⟩
theorem g_X2_fillCorners_174 : en_C M_X2_fillCorners M_X2_multiplyBothWays 179 3 := ⟨⟨by decide +kernel, by decide +kernel, by decide +kernel⟩, ⟨by decide, by decide, by decide +kernel⟩, by decide, by decide⟩
theorem w_X2_multiplyBothWays : Cond.instanceMethod M_X2_multiplyBothWays.1 ∈ en_tbl ∧ Cond.selects M_X2_multiplyBothWays.1.cls M_X2_multiplyBothWays.1 M_X2_multiplyBothWays.1 ∈ en_tbl := ⟨by decide +kernel, by decide +kernel⟩
theorem q_X2_fillCorners_177 : decode M_X2_fillCorners.2.1 177 = .ok (.iload 8, 2) ∧ 177 + 2 = 179 := ⟨by decide +kernel, rfl⟩
theorem q_X2_fillCorners_179 : decode M_X2_fillCorners.2.1 179 = .ok (.iload 9, 2) ∧ 179 + 2 = 181 := ⟨by decide +kernel, rfl⟩
theorem q_X2_fillCorners_181 : decode M_X2_fillCorners.2.1 181 = .ok (.iadd, 1) ∧ 181 + 1 = 182 := ⟨by decide +kernel, rfl⟩
theorem q_X2_fillCorners_182 : decode M_X2_fillCorners.2.1 182 = .ok (.ifCond .eq 17, 3) ∧ 182 + 3 = 185 ∧ ((182 : Nat) : Int) + 17 = ((199 : Nat) : Int) := ⟨by decide +kernel, rfl, rfl⟩
theorem q_X2_fillCorners_185 : decode M_X2_fillCorners.2.1 185 = .ok (.aload_n 0, 1) ∧ 185 + 1 = 186 := ⟨by decide +kernel, rfl⟩
theorem q_X2_fillCorners_186 : decode M_X2_fillCorners.2.1 186 = .ok (.getfield 28, 3) ∧ 186 + 3 = 189 := ⟨by decide +kernel, rfl⟩
theorem q_X2_fillCorners_189 : decode M_X2_fillCorners.2.1 189 = .ok (.aload_n 1, 1) ∧ 189 + 1 = 190 := ⟨by decide +kernel, rfl⟩
theorem q_X2_fillCorners_190 : decode M_X2_fillCorners.2.1 190 = .ok (.getfield 107, 3) ∧ 190 + 3 = 193 := ⟨by decide +kernel, rfl⟩
theorem q_X2_fillCorners_193 : decode M_X2_fillCorners.2.1 193 = .ok (.invokevirtual 119, 3) ∧ 193 + 3 = 196 := ⟨by decide +kernel, rfl⟩
theorem g_X2_fillCorners_193 : en_C M_X2_fillCorners M_X1_compare 119 1 := ⟨⟨by decide +kernel, by decide +kernel, by decide +kernel⟩, ⟨by decide, by decide, by decide +kernel⟩, by decide, by decide⟩
theorem q_X2_fillCorners_196 : decode M_X2_fillCorners.2.1 196 = .ok (.ifCond .ge 14, 3) ∧ 196 + 3 = 199 ∧ ((196 : Nat) : Int) + 14 = ((210 : Nat) : Int) := ⟨by decide +kernel, rfl, rfl⟩
theorem q_X2_fillCorners_199 : decode M_X2_fillCorners.2.1 199 = .ok (.aload_n 1, 1) ∧ 199 + 1 = 200 := ⟨by decide +kernel, rfl⟩
theorem q_X2_fillCorners_200 : decode M_X2_fillCorners.2.1 200 = .ok (.getfield 107, 3) ∧ 200 + 3 = 203 := ⟨by decide +kernel, rfl⟩
theorem q_X2_fillCorners_203 : decode M_X2_fillCorners.2.1 203 = .ok (.aload_n 0, 1) ∧ 203 + 1 = 204 := ⟨by decide +kernel, rfl⟩
theorem q_X2_fillCorners_204 : decode M_X2_fillCorners.2.1 204 = .ok (.getfield 28, 3) ∧ 204 + 3 = 207 := ⟨by decide +kernel, rfl⟩
theorem q_X2_fillCorners_207 : decode M_X2_fillCorners.2.1 207 = .ok (.invokevirtual 139, 3) ∧ 207 + 3 = 210 := ⟨by decide +kernel, rfl⟩
theorem g_X2_fillCorners_207 : en_C M_X2_fillCorners M_X1_copy 139 1 := ⟨⟨by decide +kernel, by decide +kernel, by decide +kernel⟩, ⟨by decide, by decide, by decide +kernel⟩, by decide, by decide⟩
theorem q_X2_fillCorners_210 : decode M_X2_fillCorners.2.1 210 = .ok (.iload 8, 2) ∧ 210 + 2 = 212 := ⟨by decide +kernel, rfl⟩
theorem q_X2_fillCorners_212 : decode M_X2_fillCorners.2.1 212 = .ok (.iload 9, 2) ∧ 212 + 2 = 214 := ⟨by decide +kernel, rfl⟩
theorem q_X2_fillCorners_214 : decode M_X2_fillCorners.2.1 214 = .ok (.iadd, 1) ∧ 214 + 1 = 215 := ⟨by decide +kernel, rfl⟩
theorem q_X2_fillCorners_215 : decode M_X2_fillCorners.2.1 215 = .ok (.ifCond .eq 17, 3) ∧ 215 + 3 = 218 ∧ ((215 : Nat) : Int) + 17 = ((232 : Nat) : Int) := ⟨by decide +kernel, rfl, rfl⟩
theorem q_X2_fillCorners_218 : decode M_X2_fillCorners.2.1 218 = .ok (.aload_n 0, 1) ∧ 218 + 1 = 219 := ⟨by decide +kernel, rfl⟩
theorem q_X2_fillCorners_219 : decode M_X2_fillCorners.2.1 219 = .ok (.getfield 32, 3) ∧ 219 + 3 = 222 := ⟨by decide +kernel, rfl⟩
theorem q_X2_fillCorners_222 : decode M_X2_fillCorners.2.1 222 = .ok (.aload_n 1, 1) ∧ 222 + 1 = 223 := ⟨by decide +kernel, rfl⟩
theorem q_X2_fillCorners_223 : decode M_X2_fillCorners.2.1 223 = .ok (.getfield 114, 3) ∧ 223 + 3 = 226 := ⟨by decide +kernel, rfl⟩
theorem q_X2_fillCorners_226 : decode M_X2_fillCorners.2.1 226 = .ok (.invokevirtual 119, 3) ∧ 226 + 3 = 229 := ⟨by decide +kernel, rfl⟩
theorem g_X2_fillCorners_226 : en_C M_X2_fillCorners M_X1_compare 119 1 := ⟨⟨by decide +kernel, by decide +kernel, by decide +kernel⟩, ⟨by decide, by decide, by decide +kernel⟩, by decide, by decide⟩
theorem q_X2_fillCorners_229 : decode M_X2_fillCorners.2.1 229 = .ok (.ifCond .le 14, 3) ∧ 229 + 3 = 232 ∧ ((229 : Nat) : Int) + 14 = ((243 : Nat) : Int) := ⟨by decide +kernel, rfl, rfl⟩
theorem q_X2_fillCorners_232 : decode M_X2_fillCorners.2.1 232 = .ok (.aload_n 1, 1) ∧ 232 + 1 = 233 := ⟨by decide +kernel, rfl⟩
theorem q_X2_fillCorners_233 : decode M_X2_fillCorners.2.1 233 = .ok (.getfield 114, 3) ∧ 233 + 3 = 236 := ⟨by decide +kernel, rfl⟩
theorem q_X2_fillCorners_236 : decode M_X2_fillCorners.2.1 236 = .ok (.aload_n 0, 1) ∧ 236 + 1 = 237 := ⟨by decide +kernel, rfl⟩
theorem q_X2_fillCorners_237 : decode M_X2_fillCorners.2.1 237 = .ok (.getfield 32, 3) ∧ 237 + 3 = 240 := ⟨by decide +kernel, rfl⟩
theorem q_X2_fillCorners_240 : decode M_X2_fillCorners.2.1 240 = .ok (.invokevirtual 139, 3) ∧ 240 + 3 = 243 := ⟨by decide +kernel, rfl⟩
theorem g_X2_fillCorners_240 : en_C M_X2_fillCorners M_X1_copy 139 1 := ⟨⟨by decide +kernel, by decide +kernel, by decide +kernel⟩, ⟨by decide, by decide, by decide +kernel⟩, by decide, by decide⟩
theorem q_X2_fillCorners_243 : decode M_X2_fillCorners.2.1 243 = .ok (.iinc 9 1, 3) ∧ 243 + 3 = 246 := ⟨by decide +kernel, rfl⟩
theorem q_X2_fillCorners_246 : decode M_X2_fillCorners.2.1 246 = .ok (.goto (-158), 3) ∧ 246 + 3 = 249 ∧ ((246 : Nat) : Int) + (-158) = ((88 : Nat) : Int) := ⟨by decide +kernel, rfl, rfl⟩
theorem q_X2_fillCorners_249 : decode M_X2_fillCorners.2.1 249 = .ok (.iinc 8 1, 3) ∧ 249 + 3 = 252 := ⟨by decide +kernel, rfl⟩
theorem q_X2_fillCorners_252 : decode M_X2_fillCorners.2.1 252 = .ok (.goto (-174), 3) ∧ 252 + 3 = 255 ∧ ((252 : Nat) : Int) + (-174) = ((78 : Nat) : Int) := ⟨by decide +kernel, rfl, rfl⟩
theorem q_X2_fillCorners_255 : decode M_X2_fillCorners.2.1 255 = .ok (.return_, 1) ∧ 255 + 1 = 256 := ⟨by decide +kernel, rfl⟩
theorem q_X2_multiplyBothWays_0 : decode M_X2_multiplyBothWays.2.1 0 = .ok (.aload_n 0, 1) ∧ 0 + 1 = 1 := ⟨by decide +kernel, rfl⟩
theorem q_X2_multiplyBothWays_1 : decode M_X2_multiplyBothWays.2.1 1 = .ok (.getfield 28, 3) ∧ 1 + 3 = 4 := ⟨by decide +kernel, rfl⟩
theorem q_X2_multiplyBothWays_4 : decode M_X2_multiplyBothWays.2.1 4 = .ok (.aload_n 1, 1) ∧ 4 + 1 = 5 := ⟨by decide +kernel, rfl⟩
theorem q_X2_multiplyBothWays_5 : decode M_X2_multiplyBothWays.2.1 5 = .ok (.aload_n 2, 1) ∧ 5 + 1 = 6 := ⟨by decide +kernel, rfl⟩
theorem q_X2_multiplyBothWays_6 : decode M_X2_multiplyBothWays.2.1 6 = .ok (.invokevirtual 183, 3) ∧ 6 + 3 = 9 := ⟨by decide +kernel, rfl⟩
theorem g_X2_multiplyBothWays_6 : en_C M_X2_multiplyBothWays M_X1_setProduct 183 2 := ⟨⟨by decide +kernel, by decide +kernel, by decide +kernel⟩, ⟨by decide, by decide, by decide +kernel⟩, by decide, by decide⟩
theorem q_X2_multiplyBothWays_9 : decode M_X2_multiplyBothWays.2.1 9 = .ok (.aload_n 0, 1) ∧ 9 + 1 = 10 := ⟨by decide +kernel, rfl⟩
theorem q_X2_multiplyBothWays_10 : decode M_X2_multiplyBothWays.2.1 10 = .ok (.getfield 32, 3) ∧ 10 + 3 = 13 := ⟨by decide +kernel, rfl⟩
theorem q_X2_multiplyBothWays_13 : decode M_X2_multiplyBothWays.2.1 13 = .ok (.aload_n 0, 1) ∧ 13 + 1 = 14 := ⟨by decide +kernel, rfl⟩
theorem q_X2_multiplyBothWays_14 : decode M_X2_multiplyBothWays.2.1 14 = .ok (.getfield 28, 3) ∧ 14 + 3 = 17 := ⟨by decide +kernel, rfl⟩
theorem q_X2_multiplyBothWays_17 : decode M_X2_multiplyBothWays.2.1 17 = .ok (.invokevirtual 139, 3) ∧ 17 + 3 = 20 := ⟨by decide +kernel, rfl⟩
theorem g_X2_multiplyBothWays_17 : en_C M_X2_multiplyBothWays M_X1_copy 139 1 := ⟨⟨by decide +kernel, by decide +kernel, by decide +kernel⟩, ⟨by decide, by decide, by decide +kernel⟩, by decide, by decide⟩
theorem q_X2_multiplyBothWays_20 : decode M_X2_multiplyBothWays.2.1 20 = .ok (.aload_n 0, 1) ∧ 20 + 1 = 21 := ⟨by decide +kernel, rfl⟩
theorem q_X2_multiplyBothWays_21 : decode M_X2_multiplyBothWays.2.1 21 = .ok (.getfield 28, 3) ∧ 21 + 3 = 24 := ⟨by decide +kernel, rfl⟩
theorem q_X2_multiplyBothWays_24 : decode M_X2_multiplyBothWays.2.1 24 = .ok (.iload_n 3, 1) ∧ 24 + 1 = 25 := ⟨by decide +kernel, rfl⟩
theorem q_X2_multiplyBothWays_25 : decode M_X2_multiplyBothWays.2.1 25 = .ok (.iconst (-1), 1) ∧ 25 + 1 = 26 := ⟨by decide +kernel, rfl⟩
theorem q_X2_multiplyBothWays_26 : decode M_X2_multiplyBothWays.2.1 26 = .ok (.invokevirtual 156, 3) ∧ 26 + 3 = 29 := ⟨by decide +kernel, rfl⟩
theorem g_X2_multiplyBothWays_26 : en_C M_X2_multiplyBothWays M_X1_shrink 156 2 := ⟨⟨by decide +kernel, by decide +kernel, by decide +kernel⟩, ⟨by decide, by decide, by decide +kernel⟩, by decide, by decide⟩
theorem q_X2_multiplyBothWays_29 : decode M_X2_multiplyBothWays.2.1 29 = .ok (.aload_n 0, 1) ∧ 29 + 1 = 30 := ⟨by decide +kernel, rfl⟩
theorem q_X2_multiplyBothWays_30 : decode M_X2_multiplyBothWays.2.1 30 = .ok (.getfield 32, 3) ∧ 30 + 3 = 33 := ⟨by decide +kernel, rfl⟩
theorem q_X2_multiplyBothWays_33 : decode M_X2_multiplyBothWays.2.1 33 = .ok (.iload_n 3, 1) ∧ 33 + 1 = 34 := ⟨by decide +kernel, rfl⟩
theorem q_X2_multiplyBothWays_34 : decode M_X2_multiplyBothWays.2.1 34 = .ok (.iconst 1, 1) ∧ 34 + 1 = 35 := ⟨by decide +kernel, rfl⟩
theorem q_X2_multiplyBothWays_35 : decode M_X2_multiplyBothWays.2.1 35 = .ok (.invokevirtual 156, 3) ∧ 35 + 3 = 38 := ⟨by decide +kernel, rfl⟩
theorem g_X2_multiplyBothWays_35 : en_C M_X2_multiplyBothWays M_X1_shrink 156 2 := ⟨⟨by decide +kernel, by decide +kernel, by decide +kernel⟩, ⟨by decide, by decide, by decide +kernel⟩, by decide, by decide⟩
theorem q_X2_multiplyBothWays_38 : decode M_X2_multiplyBothWays.2.1 38 = .ok (.return_, 1) ∧ 38 + 1 = 39 := ⟨by decide +kernel, rfl⟩
theorem q_X2_divideBothWays_0 : decode M_X2_divideBothWays.2.1 0 = .ok (.aload_n 1, 1) ∧ 0 + 1 = 1 := ⟨by decide +kernel, rfl⟩
theorem q_X2_divideBothWays_1 : decode M_X2_divideBothWays.2.1 1 = .ok (.getfield 169, 3) ∧ 1 + 3 = 4 := ⟨by decide +kernel, rfl⟩
theorem q_X2_divideBothWays_4 : decode M_X2_divideBothWays.2.1 4 = .ok (.aload_n 2, 1) ∧ 4 + 1 = 5 := ⟨by decide +kernel, rfl⟩
theorem q_X2_divideBothWays_5 : decode M_X2_divideBothWays.2.1 5 = .ok (.getfield 169, 3) ∧ 5 + 3 = 8 := ⟨by decide +kernel, rfl⟩
theorem q_X2_divideBothWays_8 : decode M_X2_divideBothWays.2.1 8 = .ok (.imul, 1) ∧ 8 + 1 = 9 := ⟨by decide +kernel, rfl⟩
theorem q_X2_divideBothWays_9 : decode M_X2_divideBothWays.2.1 9 = .ok (.istore_n 3, 1) ∧ 9 + 1 = 10 := ⟨by decide +kernel, rfl⟩
theorem q_X2_divideBothWays_10 : decode M_X2_divideBothWays.2.1 10 = .ok (.aload_n 0, 1) ∧ 10 + 1 = 11 := ⟨by decide +kernel, rfl⟩
theorem q_X2_divideBothWays_11 : decode M_X2_divideBothWays.2.1 11 = .ok (.getfield 12, 3) ∧ 11 + 3 = 14 := ⟨by decide +kernel, rfl⟩
theorem q_X2_divideBothWays_14 : decode M_X2_divideBothWays.2.1 14 = .ok (.aload_n 1, 1) ∧ 14 + 1 = 15 := ⟨by decide +kernel, rfl⟩
theorem q_X2_divideBothWays_15 : decode M_X2_divideBothWays.2.1 15 = .ok (.aload_n 2, 1) ∧ 15 + 1 = 16 := ⟨by decide +kernel, rfl⟩
theorem q_X2_divideBothWays_16 : decode M_X2_divideBothWays.2.1 16 = .ok (.aload_n 0, 1) ∧ 16 + 1 = 17 := ⟨by decide +kernel, rfl⟩
theorem q_X2_divideBothWays_17 : decode M_X2_divideBothWays.2.1 17 = .ok (.getfield 28, 3) ∧ 17 + 3 = 20 := ⟨by decide +kernel, rfl⟩
theorem q_X2_divideBothWays_20 : decode M_X2_divideBothWays.2.1 20 = .ok (.aload_n 0, 1) ∧ 20 + 1 = 21 := ⟨by decide +kernel, rfl⟩
theorem q_X2_divideBothWays_21 : decode M_X2_divideBothWays.2.1 21 = .ok (.getfield 41, 3) ∧ 21 + 3 = 24 := ⟨by decide +kernel, rfl⟩
theorem f_RX2_41 : en_F RX2 41 2 6 := ⟨RX2, TX2, 7, rfl, by decide, rfl, by decide +kernel, by decide +kernel⟩
theorem q_X2_divideBothWays_24 : decode M_X2_divideBothWays.2.1 24 = .ok (.invokevirtual 186, 3) ∧ 24 + 3 = 27 := ⟨by decide +kernel, rfl⟩
theorem g_X2_divideBothWays_24 : en_C M_X2_divideBothWays M_X0_divide 186 4 := ⟨⟨by decide +kernel, by decide +kernel, by decide +kernel⟩, ⟨by decide, by decide, by decide +kernel⟩, by decide, by decide⟩
theorem q_X2_divideBothWays_27 : decode M_X2_divideBothWays.2.1 27 = .ok (.aload_n 0, 1) ∧ 27 + 1 = 28 := ⟨by decide +kernel, rfl⟩
theorem q_X2_divideBothWays_28 : decode M_X2_divideBothWays.2.1 28 = .ok (.getfield 28, 3) ∧ 28 + 3 = 31 := ⟨by decide +kernel, rfl⟩
theorem q_X2_divideBothWays_31 : decode M_X2_divideBothWays.2.1 31 = .ok (.dup, 1) ∧ 31 + 1 = 32 := ⟨by decide +kernel, rfl⟩
theorem q_X2_divideBothWays_32 : decode M_X2_divideBothWays.2.1 32 = .ok (.getfield 169, 3) ∧ 32 + 3 = 35 := ⟨by decide +kernel, rfl⟩
theorem q_X2_divideBothWays_35 : decode M_X2_divideBothWays.2.1 35 = .ok (.iload_n 3, 1) ∧ 35 + 1 = 36 := ⟨by decide +kernel, rfl⟩
theorem q_X2_divideBothWays_36 : decode M_X2_divideBothWays.2.1 36 = .ok (.imul, 1) ∧ 36 + 1 = 37 := ⟨by decide +kernel, rfl⟩
theorem q_X2_divideBothWays_37 : decode M_X2_divideBothWays.2.1 37 = .ok (.putfield 169, 3) ∧ 37 + 3 = 40 := ⟨by decide +kernel, rfl⟩
theorem p_RX2_169 : en_Fp RX2 169 1 0 false .int := ⟨RX1, TX1, 3, tyX1, rfl, by decide, rfl, by decide +kernel, by decide +kernel, tyX1_ok, nmX1, rfl, by decide +kernel⟩
theorem q_X2_divideBothWays_40 : decode M_X2_divideBothWays.2.1 40 = .ok (.aload_n 0, 1) ∧ 40 + 1 = 41 := ⟨by decide +kernel, rfl⟩
theorem q_X2_divideBothWays_41 : decode M_X2_divideBothWays.2.1 41 = .ok (.getfield 32, 3) ∧ 41 + 3 = 44 := ⟨by decide +kernel, rfl⟩
theorem q_X2_divideBothWays_44 : decode M_X2_divideBothWays.2.1 44 = .ok (.aload_n 0, 1) ∧ 44 + 1 = 45 := ⟨by decide +kernel, rfl⟩
theorem q_X2_divideBothWays_45 : decode M_X2_divideBothWays.2.1 45 = .ok (.getfield 28, 3) ∧ 45 + 3 = 48 := ⟨by decide +kernel, rfl⟩
theorem q_X2_divideBothWays_48 : decode M_X2_divideBothWays.2.1 48 = .ok (.invokevirtual 139, 3) ∧ 48 + 3 = 51 := ⟨by decide +kernel, rfl⟩
theorem g_X2_divideBothWays_48 : en_C M_X2_divideBothWays M_X1_copy 139 1 := ⟨⟨by decide +kernel, by decide +kernel, by decide +kernel⟩, ⟨by decide, by decide, by decide +kernel⟩, by decide, by decide⟩
theorem q_X2_divideBothWays_51 : decode M_X2_divideBothWays.2.1 51 = .ok (.aload_n 0, 1) ∧ 51 + 1 = 52 := ⟨by decide +kernel, rfl⟩
theorem q_X2_divideBothWays_52 : decode M_X2_divideBothWays.2.1 52 = .ok (.getfield 41, 3) ∧ 52 + 3 = 55 := ⟨by decide +kernel, rfl⟩
theorem q_X2_divideBothWays_55 : decode M_X2_divideBothWays.2.1 55 = .ok (.getfield 169, 3) ∧ 55 + 3 = 58 := ⟨by decide +kernel, rfl⟩
theorem q_X2_divideBothWays_58 : decode M_X2_divideBothWays.2.1 58 = .ok (.ifCond .eq 26, 3) ∧ 58 + 3 = 61 ∧ ((58 : Nat) : Int) + 26 = ((84 : Nat) : Int) := ⟨by decide +kernel, rfl, rfl⟩
theorem q_X2_divideBothWays_61 : decode M_X2_divideBothWays.2.1 61 = .ok (.iload_n 3, 1) ∧ 61 + 1 = 62 := ⟨by decide +kernel, rfl⟩
theorem q_X2_divideBothWays_62 : decode M_X2_divideBothWays.2.1 62 = .ok (.ifCond .ge 10, 3) ∧ 62 + 3 = 65 ∧ ((62 : Nat) : Int) + 10 = ((72 : Nat) : Int) := ⟨by decide +kernel, rfl, rfl⟩
theorem q_X2_divideBothWays_65 : decode M_X2_divideBothWays.2.1 65 = .ok (.aload_n 0, 1) ∧ 65 + 1 = 66 := ⟨by decide +kernel, rfl⟩
theorem q_X2_divideBothWays_66 : decode M_X2_divideBothWays.2.1 66 = .ok (.getfield 28, 3) ∧ 66 + 3 = 69 := ⟨by decide +kernel, rfl⟩
theorem q_X2_divideBothWays_69 : decode M_X2_divideBothWays.2.1 69 = .ok (.goto 7, 3) ∧ 69 + 3 = 72 ∧ ((69 : Nat) : Int) + 7 = ((76 : Nat) : Int) := ⟨by decide +kernel, rfl, rfl⟩
theorem q_X2_divideBothWays_72 : decode M_X2_divideBothWays.2.1 72 = .ok (.aload_n 0, 1) ∧ 72 + 1 = 73 := ⟨by decide +kernel, rfl⟩
theorem q_X2_divideBothWays_73 : decode M_X2_divideBothWays.2.1 73 = .ok (.getfield 32, 3) ∧ 73 + 3 = 76 := ⟨by decide +kernel, rfl⟩
theorem q_X2_divideBothWays_76 : decode M_X2_divideBothWays.2.1 76 = .ok (.astore 4, 2) ∧ 76 + 2 = 78 := ⟨by decide +kernel, rfl⟩
theorem q_X2_divideBothWays_78 : decode M_X2_divideBothWays.2.1 78 = .ok (.aload 4, 2) ∧ 78 + 2 = 80 := ⟨by decide +kernel, rfl⟩
theorem q_X2_divideBothWays_80 : decode M_X2_divideBothWays.2.1 80 = .ok (.iload_n 3, 1) ∧ 80 + 1 = 81 := ⟨by decide +kernel, rfl⟩
theorem q_X2_divideBothWays_81 : decode M_X2_divideBothWays.2.1 81 = .ok (.invokevirtual 160, 3) ∧ 81 + 3 = 84 := ⟨by decide +kernel, rfl⟩
theorem g_X2_divideBothWays_81 : en_C M_X2_divideBothWays M_X1_grow 160 1 := ⟨⟨by decide +kernel, by decide +kernel, by decide +kernel⟩, ⟨by decide, by decide, by decide +kernel⟩, by decide, by decide⟩
theorem q_X2_divideBothWays_84 : decode M_X2_divideBothWays.2.1 84 = .ok (.return_, 1) ∧ 84 + 1 = 85 := ⟨by decide +kernel, rfl⟩
