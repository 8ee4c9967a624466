/-! instructions, fields, calls -/
def dl_X6_init_0 : List (Nat × Instr × Nat) := [(0, .aload_n 0, 1), (1, .invokespecial 1, 3), (4, .aload_n 0, 1), (5, .bipush 60, 2), (7, .anewarray 9, 3), (10, .putfield 11, 3), (13, .aload_n 0, 1), (14, .new 15, 3), (17, .dup, 1), (18, .invokespecial 17, 3), (21, .putfield 18, 3), (24, .aload_n 0, 1), (25, .new 22, 3), (28, .dup, 1), (29, .invokespecial 24, 3), (32, .putfield 25, 3), (35, .aload_n 0, 1), (36, .new 22, 3), (39, .dup, 1), (40, .invokespecial 24, 3), (43, .putfield 29, 3), (46, .aload_n 0, 1), (47, .new 22, 3), (50, .dup, 1), (51, .invokespecial 24, 3), (54, .putfield 32, 3), (57, .aload_n 0, 1), (58, .new 22, 3), (61, .dup, 1), (62, .invokespecial 24, 3), (65, .putfield 35, 3), (68, .aload_n 0, 1), (69, .new 22, 3), (72, .dup, 1), (73, .invokespecial 24, 3), (76, .putfield 38, 3), (79, .aload_n 0, 1), (80, .new 41, 3), (83, .dup, 1), (84, .invokespecial 43, 3)]
theorem da_X6_init_0 : dcAll M_X6_init.2.1 dl_X6_init_0 = true := by decide +kernel
def dl_X6_init_1 : List (Nat × Instr × Nat) := [(87, .putfield 44, 3), (90, .aload_n 0, 1), (91, .new 41, 3), (94, .dup, 1), (95, .invokespecial 43, 3), (98, .putfield 48, 3), (101, .aload_n 0, 1), (102, .bipush 40, 2), (104, .newarray .long, 2), (106, .putfield 51, 3), (109, .aload_n 0, 1), (110, .bipush 40, 2), (112, .newarray .long, 2), (114, .putfield 55, 3), (117, .return_, 1)]
theorem da_X6_init_1 : dcAll M_X6_init.2.1 dl_X6_init_1 = true := by decide +kernel
theorem q_X6_init_0 : decode M_X6_init.2.1 0 = .ok (.aload_n 0, 1) ∧ 0 + 1 = 1 := ⟨dcAll_e (i := 0) da_X6_init_0 rfl, rfl⟩
theorem q_X6_init_1 : decode M_X6_init.2.1 1 = .ok (.invokespecial 1, 3) ∧ 1 + 3 = 4 := ⟨dcAll_e (i := 1) da_X6_init_0 rfl, rfl⟩
theorem o_RX6_1 : Cond.methodLink RX6 1 Lib.objectInit ∈ en_tbl := by decide +kernel
theorem q_X6_init_4 : decode M_X6_init.2.1 4 = .ok (.aload_n 0, 1) ∧ 4 + 1 = 5 := ⟨dcAll_e (i := 2) da_X6_init_0 rfl, rfl⟩
theorem q_X6_init_5 : decode M_X6_init.2.1 5 = .ok (.bipush 60, 2) ∧ 5 + 2 = 7 := ⟨dcAll_e (i := 3) da_X6_init_0 rfl, rfl⟩
theorem q_X6_init_7 : decode M_X6_init.2.1 7 = .ok (.anewarray 9, 3) ∧ 7 + 3 = 10 := ⟨dcAll_e (i := 4) da_X6_init_0 rfl, rfl⟩
theorem c_RX6_9 : Cond.classLink RX6 9 RX5 ∈ en_tbl := by decide +kernel
theorem q_X6_init_10 : decode M_X6_init.2.1 10 = .ok (.putfield 11, 3) ∧ 10 + 3 = 13 := ⟨dcAll_e (i := 5) da_X6_init_0 rfl, rfl⟩
theorem p_RX6_11 : en_Fp RX6 11 6 0 true (.array (.object "EnclosedDigits$Value")) := ⟨RX6, TX6, 15, tyX6, rfl, by decide, rfl, inT1 147 rfl rfl, uw_X6, tyX6_ok, nmX6, rfl, by decide +kernel⟩
theorem q_X6_init_13 : decode M_X6_init.2.1 13 = .ok (.aload_n 0, 1) ∧ 13 + 1 = 14 := ⟨dcAll_e (i := 6) da_X6_init_0 rfl, rfl⟩
theorem q_X6_init_14 : decode M_X6_init.2.1 14 = .ok (.new 15, 3) ∧ 14 + 3 = 17 := ⟨dcAll_e (i := 7) da_X6_init_0 rfl, rfl⟩
theorem n_RX6_15 : en_N RX6 15 2 7 [.null, .null, .null, .null, .null, .null, .null] := ⟨RX2, TX2, tyX2, rfl, by decide +kernel, by decide +kernel, in_X2, uw_X2, tyX2_ok, fun j hj => by match j, hj with | 0, _ => rfl | 1, _ => rfl | 2, _ => rfl | 3, _ => rfl | 4, _ => rfl | 5, _ => rfl | 6, _ => rfl | j + 7, h => omega⟩
theorem q_X6_init_17 : decode M_X6_init.2.1 17 = .ok (.dup, 1) ∧ 17 + 1 = 18 := ⟨dcAll_e (i := 8) da_X6_init_0 rfl, rfl⟩
theorem q_X6_init_18 : decode M_X6_init.2.1 18 = .ok (.invokespecial 17, 3) ∧ 18 + 3 = 21 := ⟨dcAll_e (i := 9) da_X6_init_0 rfl, rfl⟩
theorem cd_X2_init : Cond.code M_X2_init.1 M_X2_init.2.1 M_X2_init.2.2.1 M_X2_init.2.2.2.1 ∈ en_tbl := inT1 26 rfl rfl
theorem g_X6_init_18 : en_CN M_X6_init M_X2_init 17 0 "EnclosedDigits" := ⟨⟨by decide +kernel, in_X2, cd_X2_init⟩, ⟨by decide, by decide, by decide +kernel⟩, by decide, by decide⟩
theorem w_X2_init : Cond.instanceMethod M_X2_init.1 ∈ en_tbl := inT1 25 rfl rfl
theorem q_X6_init_21 : decode M_X6_init.2.1 21 = .ok (.putfield 18, 3) ∧ 21 + 3 = 24 := ⟨dcAll_e (i := 10) da_X6_init_0 rfl, rfl⟩
theorem p_RX6_18 : en_Fp RX6 18 6 2 true (.object "EnclosedDigits$Encloser") := ⟨RX6, TX6, 15, tyX6, rfl, by decide, rfl, inT1 149 rfl rfl, uw_X6, tyX6_ok, nmX6, rfl, by decide +kernel⟩
theorem q_X6_init_24 : decode M_X6_init.2.1 24 = .ok (.aload_n 0, 1) ∧ 24 + 1 = 25 := ⟨dcAll_e (i := 11) da_X6_init_0 rfl, rfl⟩
theorem q_X6_init_25 : decode M_X6_init.2.1 25 = .ok (.new 22, 3) ∧ 25 + 3 = 28 := ⟨dcAll_e (i := 12) da_X6_init_0 rfl, rfl⟩
theorem n_RX6_22 : en_N RX6 22 1 3 [.int 0, .int 0, .null] := ⟨RX1, TX1, tyX1, rfl, by decide +kernel, by decide +kernel, in_X1, uw_X1, tyX1_ok, fun j hj => by match j, hj with | 0, _ => rfl | 1, _ => rfl | 2, _ => rfl | j + 3, h => omega⟩
theorem q_X6_init_28 : decode M_X6_init.2.1 28 = .ok (.dup, 1) ∧ 28 + 1 = 29 := ⟨dcAll_e (i := 13) da_X6_init_0 rfl, rfl⟩
theorem q_X6_init_29 : decode M_X6_init.2.1 29 = .ok (.invokespecial 24, 3) ∧ 29 + 3 = 32 := ⟨dcAll_e (i := 14) da_X6_init_0 rfl, rfl⟩
theorem g_X6_init_29 : en_CN M_X6_init M_X1_init 24 0 "EnclosedDigits" := ⟨⟨by decide +kernel, in_X1, cd_X1_init⟩, ⟨by decide, by decide, by decide +kernel⟩, by decide, by decide⟩
theorem q_X6_init_32 : decode M_X6_init.2.1 32 = .ok (.putfield 25, 3) ∧ 32 + 3 = 35 := ⟨dcAll_e (i := 15) da_X6_init_0 rfl, rfl⟩
theorem p_RX6_25 : en_Fp RX6 25 6 3 true (.object "EnclosedDigits$Big") := ⟨RX6, TX6, 15, tyX6, rfl, by decide, rfl, inT1 150 rfl rfl, uw_X6, tyX6_ok, nmX6, rfl, by decide +kernel⟩
theorem q_X6_init_35 : decode M_X6_init.2.1 35 = .ok (.aload_n 0, 1) ∧ 35 + 1 = 36 := ⟨dcAll_e (i := 16) da_X6_init_0 rfl, rfl⟩
theorem q_X6_init_36 : decode M_X6_init.2.1 36 = .ok (.new 22, 3) ∧ 36 + 3 = 39 := ⟨dcAll_e (i := 17) da_X6_init_0 rfl, rfl⟩
theorem q_X6_init_39 : decode M_X6_init.2.1 39 = .ok (.dup, 1) ∧ 39 + 1 = 40 := ⟨dcAll_e (i := 18) da_X6_init_0 rfl, rfl⟩
theorem q_X6_init_40 : decode M_X6_init.2.1 40 = .ok (.invokespecial 24, 3) ∧ 40 + 3 = 43 := ⟨dcAll_e (i := 19) da_X6_init_0 rfl, rfl⟩
theorem g_X6_init_40 : en_CN M_X6_init M_X1_init 24 0 "EnclosedDigits" := ⟨⟨by decide +kernel, in_X1, cd_X1_init⟩, ⟨by decide, by decide, by decide +kernel⟩, by decide, by decide⟩
theorem q_X6_init_43 : decode M_X6_init.2.1 43 = .ok (.putfield 29, 3) ∧ 43 + 3 = 46 := ⟨dcAll_e (i := 20) da_X6_init_0 rfl, rfl⟩
theorem p_RX6_29 : en_Fp RX6 29 6 4 true (.object "EnclosedDigits$Big") := ⟨RX6, TX6, 15, tyX6, rfl, by decide, rfl, inT1 151 rfl rfl, uw_X6, tyX6_ok, nmX6, rfl, by decide +kernel⟩
theorem q_X6_init_46 : decode M_X6_init.2.1 46 = .ok (.aload_n 0, 1) ∧ 46 + 1 = 47 := ⟨dcAll_e (i := 21) da_X6_init_0 rfl, rfl⟩
theorem q_X6_init_47 : decode M_X6_init.2.1 47 = .ok (.new 22, 3) ∧ 47 + 3 = 50 := ⟨dcAll_e (i := 22) da_X6_init_0 rfl, rfl⟩
theorem q_X6_init_50 : decode M_X6_init.2.1 50 = .ok (.dup, 1) ∧ 50 + 1 = 51 := ⟨dcAll_e (i := 23) da_X6_init_0 rfl, rfl⟩
theorem q_X6_init_51 : decode M_X6_init.2.1 51 = .ok (.invokespecial 24, 3) ∧ 51 + 3 = 54 := ⟨dcAll_e (i := 24) da_X6_init_0 rfl, rfl⟩
theorem g_X6_init_51 : en_CN M_X6_init M_X1_init 24 0 "EnclosedDigits" := ⟨⟨by decide +kernel, in_X1, cd_X1_init⟩, ⟨by decide, by decide, by decide +kernel⟩, by decide, by decide⟩
theorem q_X6_init_54 : decode M_X6_init.2.1 54 = .ok (.putfield 32, 3) ∧ 54 + 3 = 57 := ⟨dcAll_e (i := 25) da_X6_init_0 rfl, rfl⟩
theorem p_RX6_32 : en_Fp RX6 32 6 5 true (.object "EnclosedDigits$Big") := ⟨RX6, TX6, 15, tyX6, rfl, by decide, rfl, inT1 152 rfl rfl, uw_X6, tyX6_ok, nmX6, rfl, by decide +kernel⟩
theorem q_X6_init_57 : decode M_X6_init.2.1 57 = .ok (.aload_n 0, 1) ∧ 57 + 1 = 58 := ⟨dcAll_e (i := 26) da_X6_init_0 rfl, rfl⟩
theorem q_X6_init_58 : decode M_X6_init.2.1 58 = .ok (.new 22, 3) ∧ 58 + 3 = 61 := ⟨dcAll_e (i := 27) da_X6_init_0 rfl, rfl⟩
theorem q_X6_init_61 : decode M_X6_init.2.1 61 = .ok (.dup, 1) ∧ 61 + 1 = 62 := ⟨dcAll_e (i := 28) da_X6_init_0 rfl, rfl⟩
theorem q_X6_init_62 : decode M_X6_init.2.1 62 = .ok (.invokespecial 24, 3) ∧ 62 + 3 = 65 := ⟨dcAll_e (i := 29) da_X6_init_0 rfl, rfl⟩
theorem g_X6_init_62 : en_CN M_X6_init M_X1_init 24 0 "EnclosedDigits" := ⟨⟨by decide +kernel, in_X1, cd_X1_init⟩, ⟨by decide, by decide, by decide +kernel⟩, by decide, by decide⟩
theorem q_X6_init_65 : decode M_X6_init.2.1 65 = .ok (.putfield 35, 3) ∧ 65 + 3 = 68 := ⟨dcAll_e (i := 30) da_X6_init_0 rfl, rfl⟩
theorem p_RX6_35 : en_Fp RX6 35 6 7 true (.object "EnclosedDigits$Big") := ⟨RX6, TX6, 15, tyX6, rfl, by decide, rfl, inT1 154 rfl rfl, uw_X6, tyX6_ok, nmX6, rfl, by decide +kernel⟩
theorem q_X6_init_68 : decode M_X6_init.2.1 68 = .ok (.aload_n 0, 1) ∧ 68 + 1 = 69 := ⟨dcAll_e (i := 31) da_X6_init_0 rfl, rfl⟩
theorem q_X6_init_69 : decode M_X6_init.2.1 69 = .ok (.new 22, 3) ∧ 69 + 3 = 72 := ⟨dcAll_e (i := 32) da_X6_init_0 rfl, rfl⟩
theorem q_X6_init_72 : decode M_X6_init.2.1 72 = .ok (.dup, 1) ∧ 72 + 1 = 73 := ⟨dcAll_e (i := 33) da_X6_init_0 rfl, rfl⟩
theorem q_X6_init_73 : decode M_X6_init.2.1 73 = .ok (.invokespecial 24, 3) ∧ 73 + 3 = 76 := ⟨dcAll_e (i := 34) da_X6_init_0 rfl, rfl⟩
theorem g_X6_init_73 : en_CN M_X6_init M_X1_init 24 0 "EnclosedDigits" := ⟨⟨by decide +kernel, in_X1, cd_X1_init⟩, ⟨by decide, by decide, by decide +kernel⟩, by decide, by decide⟩
theorem q_X6_init_76 : decode M_X6_init.2.1 76 = .ok (.putfield 38, 3) ∧ 76 + 3 = 79 := ⟨dcAll_e (i := 35) da_X6_init_0 rfl, rfl⟩
theorem p_RX6_38 : en_Fp RX6 38 6 8 true (.object "EnclosedDigits$Big") := ⟨RX6, TX6, 15, tyX6, rfl, by decide, rfl, inT1 155 rfl rfl, uw_X6, tyX6_ok, nmX6, rfl, by decide +kernel⟩
theorem q_X6_init_79 : decode M_X6_init.2.1 79 = .ok (.aload_n 0, 1) ∧ 79 + 1 = 80 := ⟨dcAll_e (i := 36) da_X6_init_0 rfl, rfl⟩
theorem q_X6_init_80 : decode M_X6_init.2.1 80 = .ok (.new 41, 3) ∧ 80 + 3 = 83 := ⟨dcAll_e (i := 37) da_X6_init_0 rfl, rfl⟩
theorem n_RX6_41 : en_N RX6 41 3 4 [.null, .null, .null, .null] := ⟨RX3, TX3, tyX3, rfl, by decide +kernel, by decide +kernel, in_X3, uw_X3, tyX3_ok, fun j hj => by match j, hj with | 0, _ => rfl | 1, _ => rfl | 2, _ => rfl | 3, _ => rfl | j + 4, h => omega⟩
theorem q_X6_init_83 : decode M_X6_init.2.1 83 = .ok (.dup, 1) ∧ 83 + 1 = 84 := ⟨dcAll_e (i := 38) da_X6_init_0 rfl, rfl⟩
theorem q_X6_init_84 : decode M_X6_init.2.1 84 = .ok (.invokespecial 43, 3) ∧ 84 + 3 = 87 := ⟨dcAll_e (i := 39) da_X6_init_0 rfl, rfl⟩
theorem cd_X3_init : Cond.code M_X3_init.1 M_X3_init.2.1 M_X3_init.2.2.1 M_X3_init.2.2.2.1 ∈ en_tbl := inT1 129 rfl rfl
theorem g_X6_init_84 : en_CN M_X6_init M_X3_init 43 0 "EnclosedDigits" := ⟨⟨by decide +kernel, in_X3, cd_X3_init⟩, ⟨by decide, by decide, by decide +kernel⟩, by decide, by decide⟩
theorem w_X3_init : Cond.instanceMethod M_X3_init.1 ∈ en_tbl := inT1 128 rfl rfl
theorem q_X6_init_87 : decode M_X6_init.2.1 87 = .ok (.putfield 44, 3) ∧ 87 + 3 = 90 := ⟨dcAll_e (i := 0) da_X6_init_1 rfl, rfl⟩
theorem p_RX6_44 : en_Fp RX6 44 6 9 true (.object "EnclosedDigits$Fraction") := ⟨RX6, TX6, 15, tyX6, rfl, by decide, rfl, inT1 156 rfl rfl, uw_X6, tyX6_ok, nmX6, rfl, by decide +kernel⟩
theorem q_X6_init_90 : decode M_X6_init.2.1 90 = .ok (.aload_n 0, 1) ∧ 90 + 1 = 91 := ⟨dcAll_e (i := 1) da_X6_init_1 rfl, rfl⟩
theorem q_X6_init_91 : decode M_X6_init.2.1 91 = .ok (.new 41, 3) ∧ 91 + 3 = 94 := ⟨dcAll_e (i := 2) da_X6_init_1 rfl, rfl⟩
theorem q_X6_init_94 : decode M_X6_init.2.1 94 = .ok (.dup, 1) ∧ 94 + 1 = 95 := ⟨dcAll_e (i := 3) da_X6_init_1 rfl, rfl⟩
theorem q_X6_init_95 : decode M_X6_init.2.1 95 = .ok (.invokespecial 43, 3) ∧ 95 + 3 = 98 := ⟨dcAll_e (i := 4) da_X6_init_1 rfl, rfl⟩
theorem g_X6_init_95 : en_CN M_X6_init M_X3_init 43 0 "EnclosedDigits" := ⟨⟨by decide +kernel, in_X3, cd_X3_init⟩, ⟨by decide, by decide, by decide +kernel⟩, by decide, by decide⟩
theorem q_X6_init_98 : decode M_X6_init.2.1 98 = .ok (.putfield 48, 3) ∧ 98 + 3 = 101 := ⟨dcAll_e (i := 5) da_X6_init_1 rfl, rfl⟩
theorem p_RX6_48 : en_Fp RX6 48 6 10 true (.object "EnclosedDigits$Fraction") := ⟨RX6, TX6, 15, tyX6, rfl, by decide, rfl, inT1 157 rfl rfl, uw_X6, tyX6_ok, nmX6, rfl, by decide +kernel⟩
theorem q_X6_init_101 : decode M_X6_init.2.1 101 = .ok (.aload_n 0, 1) ∧ 101 + 1 = 102 := ⟨dcAll_e (i := 6) da_X6_init_1 rfl, rfl⟩
theorem q_X6_init_102 : decode M_X6_init.2.1 102 = .ok (.bipush 40, 2) ∧ 102 + 2 = 104 := ⟨dcAll_e (i := 7) da_X6_init_1 rfl, rfl⟩
theorem q_X6_init_104 : decode M_X6_init.2.1 104 = .ok (.newarray .long, 2) ∧ 104 + 2 = 106 := ⟨dcAll_e (i := 8) da_X6_init_1 rfl, rfl⟩
theorem q_X6_init_106 : decode M_X6_init.2.1 106 = .ok (.putfield 51, 3) ∧ 106 + 3 = 109 := ⟨dcAll_e (i := 9) da_X6_init_1 rfl, rfl⟩
theorem p_RX6_51 : en_Fp RX6 51 6 11 true (.array .long) := ⟨RX6, TX6, 15, tyX6, rfl, by decide, rfl, inT1 158 rfl rfl, uw_X6, tyX6_ok, nmX6, rfl, by decide +kernel⟩
theorem q_X6_init_109 : decode M_X6_init.2.1 109 = .ok (.aload_n 0, 1) ∧ 109 + 1 = 110 := ⟨dcAll_e (i := 10) da_X6_init_1 rfl, rfl⟩
theorem q_X6_init_110 : decode M_X6_init.2.1 110 = .ok (.bipush 40, 2) ∧ 110 + 2 = 112 := ⟨dcAll_e (i := 11) da_X6_init_1 rfl, rfl⟩
theorem q_X6_init_112 : decode M_X6_init.2.1 112 = .ok (.newarray .long, 2) ∧ 112 + 2 = 114 := ⟨dcAll_e (i := 12) da_X6_init_1 rfl, rfl⟩
theorem q_X6_init_114 : decode M_X6_init.2.1 114 = .ok (.putfield 55, 3) ∧ 114 + 3 = 117 := ⟨dcAll_e (i := 13) da_X6_init_1 rfl, rfl⟩
theorem p_RX6_55 : en_Fp RX6 55 6 12 true (.array .long) := ⟨RX6, TX6, 15, tyX6, rfl, by decide, rfl, inT1 159 rfl rfl, uw_X6, tyX6_ok, nmX6, rfl, by decide +kernel⟩
theorem q_X6_init_117 : decode M_X6_init.2.1 117 = .ok (.return_, 1) ∧ 117 + 1 = 118 := ⟨dcAll_e (i := 14) da_X6_init_1 rfl, rfl⟩
def dl_X6_whole_0 : List (Nat × Instr × Nat) := [(0, .aload_n 0, 1), (1, .iconst 0, 1), (2, .lload_n 1, 1), (3, .lconst 1, 1), (4, .iconst 0, 1), (5, .iconst 0, 1), (6, .invokevirtual 58, 3), (9, .ireturn, 1)]
theorem da_X6_whole_0 : dcAll M_X6_whole.2.1 dl_X6_whole_0 = true := by decide +kernel
theorem q_X6_whole_0 : decode M_X6_whole.2.1 0 = .ok (.aload_n 0, 1) ∧ 0 + 1 = 1 := ⟨dcAll_e (i := 0) da_X6_whole_0 rfl, rfl⟩
theorem q_X6_whole_1 : decode M_X6_whole.2.1 1 = .ok (.iconst 0, 1) ∧ 1 + 1 = 2 := ⟨dcAll_e (i := 1) da_X6_whole_0 rfl, rfl⟩
theorem q_X6_whole_2 : decode M_X6_whole.2.1 2 = .ok (.lload_n 1, 1) ∧ 2 + 1 = 3 := ⟨dcAll_e (i := 2) da_X6_whole_0 rfl, rfl⟩
theorem q_X6_whole_3 : decode M_X6_whole.2.1 3 = .ok (.lconst 1, 1) ∧ 3 + 1 = 4 := ⟨dcAll_e (i := 3) da_X6_whole_0 rfl, rfl⟩
theorem q_X6_whole_4 : decode M_X6_whole.2.1 4 = .ok (.iconst 0, 1) ∧ 4 + 1 = 5 := ⟨dcAll_e (i := 4) da_X6_whole_0 rfl, rfl⟩
theorem q_X6_whole_5 : decode M_X6_whole.2.1 5 = .ok (.iconst 0, 1) ∧ 5 + 1 = 6 := ⟨dcAll_e (i := 5) da_X6_whole_0 rfl, rfl⟩
theorem q_X6_whole_6 : decode M_X6_whole.2.1 6 = .ok (.invokevirtual 58, 3) ∧ 6 + 3 = 9 := ⟨dcAll_e (i := 6) da_X6_whole_0 rfl, rfl⟩
theorem cd_X6_make : Cond.code M_X6_make.1 M_X6_make.2.1 M_X6_make.2.2.1 M_X6_make.2.2.2.1 ∈ en_tbl := inT1 201 rfl rfl
theorem g_X6_whole_6 : en_C M_X6_whole M_X6_make 58 5 := ⟨⟨inT1 198 rfl rfl, in_X6, cd_X6_make⟩, ⟨by decide, by decide, by decide +kernel⟩, by decide, by decide⟩
theorem w_X6_make : Cond.instanceMethod M_X6_make.1 ∈ en_tbl ∧ Cond.selects M_X6_make.1.cls M_X6_make.1 M_X6_make.1 ∈ en_tbl := ⟨inT1 200 rfl rfl, by decide +kernel⟩
theorem q_X6_whole_9 : decode M_X6_whole.2.1 9 = .ok (.ireturn, 1) ∧ 9 + 1 = 10 := ⟨dcAll_e (i := 7) da_X6_whole_0 rfl, rfl⟩
def dl_X6_ratio_0 : List (Nat × Instr × Nat) := [(0, .lload_n 3, 1), (1, .lconst 0, 1), (2, .lcmp, 1), (3, .ifCond .ne 7, 3), (6, .iconst (-1), 1), (7, .goto 12, 3), (10, .aload_n 0, 1), (11, .iconst 1, 1), (12, .lload_n 1, 1), (13, .lload_n 3, 1), (14, .iconst 0, 1), (15, .iconst 0, 1), (16, .invokevirtual 58, 3), (19, .ireturn, 1)]
theorem da_X6_ratio_0 : dcAll M_X6_ratio.2.1 dl_X6_ratio_0 = true := by decide +kernel
theorem q_X6_ratio_0 : decode M_X6_ratio.2.1 0 = .ok (.lload_n 3, 1) ∧ 0 + 1 = 1 := ⟨dcAll_e (i := 0) da_X6_ratio_0 rfl, rfl⟩
theorem q_X6_ratio_1 : decode M_X6_ratio.2.1 1 = .ok (.lconst 0, 1) ∧ 1 + 1 = 2 := ⟨dcAll_e (i := 1) da_X6_ratio_0 rfl, rfl⟩
theorem q_X6_ratio_2 : decode M_X6_ratio.2.1 2 = .ok (.lcmp, 1) ∧ 2 + 1 = 3 := ⟨dcAll_e (i := 2) da_X6_ratio_0 rfl, rfl⟩
theorem q_X6_ratio_3 : decode M_X6_ratio.2.1 3 = .ok (.ifCond .ne 7, 3) ∧ 3 + 3 = 6 ∧ ((3 : Nat) : Int) + 7 = ((10 : Nat) : Int) := ⟨dcAll_e (i := 3) da_X6_ratio_0 rfl, rfl, rfl⟩
theorem q_X6_ratio_6 : decode M_X6_ratio.2.1 6 = .ok (.iconst (-1), 1) ∧ 6 + 1 = 7 := ⟨dcAll_e (i := 4) da_X6_ratio_0 rfl, rfl⟩
theorem q_X6_ratio_7 : decode M_X6_ratio.2.1 7 = .ok (.goto 12, 3) ∧ 7 + 3 = 10 ∧ ((7 : Nat) : Int) + 12 = ((19 : Nat) : Int) := ⟨dcAll_e (i := 5) da_X6_ratio_0 rfl, rfl, rfl⟩
theorem q_X6_ratio_10 : decode M_X6_ratio.2.1 10 = .ok (.aload_n 0, 1) ∧ 10 + 1 = 11 := ⟨dcAll_e (i := 6) da_X6_ratio_0 rfl, rfl⟩
theorem q_X6_ratio_11 : decode M_X6_ratio.2.1 11 = .ok (.iconst 1, 1) ∧ 11 + 1 = 12 := ⟨dcAll_e (i := 7) da_X6_ratio_0 rfl, rfl⟩
theorem q_X6_ratio_12 : decode M_X6_ratio.2.1 12 = .ok (.lload_n 1, 1) ∧ 12 + 1 = 13 := ⟨dcAll_e (i := 8) da_X6_ratio_0 rfl, rfl⟩
theorem q_X6_ratio_13 : decode M_X6_ratio.2.1 13 = .ok (.lload_n 3, 1) ∧ 13 + 1 = 14 := ⟨dcAll_e (i := 9) da_X6_ratio_0 rfl, rfl⟩
theorem q_X6_ratio_14 : decode M_X6_ratio.2.1 14 = .ok (.iconst 0, 1) ∧ 14 + 1 = 15 := ⟨dcAll_e (i := 10) da_X6_ratio_0 rfl, rfl⟩
theorem q_X6_ratio_15 : decode M_X6_ratio.2.1 15 = .ok (.iconst 0, 1) ∧ 15 + 1 = 16 := ⟨dcAll_e (i := 11) da_X6_ratio_0 rfl, rfl⟩
theorem q_X6_ratio_16 : decode M_X6_ratio.2.1 16 = .ok (.invokevirtual 58, 3) ∧ 16 + 3 = 19 := ⟨dcAll_e (i := 12) da_X6_ratio_0 rfl, rfl⟩
theorem g_X6_ratio_16 : en_C M_X6_ratio M_X6_make 58 5 := ⟨⟨inT1 198 rfl rfl, in_X6, cd_X6_make⟩, ⟨by decide, by decide, by decide +kernel⟩, by decide, by decide⟩
theorem q_X6_ratio_19 : decode M_X6_ratio.2.1 19 = .ok (.ireturn, 1) ∧ 19 + 1 = 20 := ⟨dcAll_e (i := 13) da_X6_ratio_0 rfl, rfl⟩
def dl_X6_arctan_0 : List (Nat × Instr × Nat) := [(0, .iload_n 1, 1), (1, .iconst 2, 1), (2, .if_icmp .lt 9, 3), (5, .iload_n 1, 1), (6, .ldc 62, 2), (8, .if_icmp .le 7, 3), (11, .iconst (-1), 1), (12, .goto 13, 3), (15, .aload_n 0, 1), (16, .iconst 2, 1), (17, .iload_n 1, 1), (18, .i2l, 1), (19, .lconst 1, 1), (20, .iconst 0, 1), (21, .iconst 0, 1), (22, .invokevirtual 58, 3), (25, .ireturn, 1)]
theorem da_X6_arctan_0 : dcAll M_X6_arctan.2.1 dl_X6_arctan_0 = true := by decide +kernel
theorem q_X6_arctan_0 : decode M_X6_arctan.2.1 0 = .ok (.iload_n 1, 1) ∧ 0 + 1 = 1 := ⟨dcAll_e (i := 0) da_X6_arctan_0 rfl, rfl⟩
theorem q_X6_arctan_1 : decode M_X6_arctan.2.1 1 = .ok (.iconst 2, 1) ∧ 1 + 1 = 2 := ⟨dcAll_e (i := 1) da_X6_arctan_0 rfl, rfl⟩
theorem q_X6_arctan_2 : decode M_X6_arctan.2.1 2 = .ok (.if_icmp .lt 9, 3) ∧ 2 + 3 = 5 ∧ ((2 : Nat) : Int) + 9 = ((11 : Nat) : Int) := ⟨dcAll_e (i := 2) da_X6_arctan_0 rfl, rfl, rfl⟩
theorem q_X6_arctan_5 : decode M_X6_arctan.2.1 5 = .ok (.iload_n 1, 1) ∧ 5 + 1 = 6 := ⟨dcAll_e (i := 3) da_X6_arctan_0 rfl, rfl⟩
theorem q_X6_arctan_6 : decode M_X6_arctan.2.1 6 = .ok (.ldc 62, 2) ∧ 6 + 2 = 8 := ⟨dcAll_e (i := 4) da_X6_arctan_0 rfl, rfl⟩
theorem k_RX6_62 : Cond.constant RX6 62 (nI 100000) ∈ en_tbl := by decide +kernel
theorem q_X6_arctan_8 : decode M_X6_arctan.2.1 8 = .ok (.if_icmp .le 7, 3) ∧ 8 + 3 = 11 ∧ ((8 : Nat) : Int) + 7 = ((15 : Nat) : Int) := ⟨dcAll_e (i := 5) da_X6_arctan_0 rfl, rfl, rfl⟩
theorem q_X6_arctan_11 : decode M_X6_arctan.2.1 11 = .ok (.iconst (-1), 1) ∧ 11 + 1 = 12 := ⟨dcAll_e (i := 6) da_X6_arctan_0 rfl, rfl⟩
theorem q_X6_arctan_12 : decode M_X6_arctan.2.1 12 = .ok (.goto 13, 3) ∧ 12 + 3 = 15 ∧ ((12 : Nat) : Int) + 13 = ((25 : Nat) : Int) := ⟨dcAll_e (i := 7) da_X6_arctan_0 rfl, rfl, rfl⟩
theorem q_X6_arctan_15 : decode M_X6_arctan.2.1 15 = .ok (.aload_n 0, 1) ∧ 15 + 1 = 16 := ⟨dcAll_e (i := 8) da_X6_arctan_0 rfl, rfl⟩
theorem q_X6_arctan_16 : decode M_X6_arctan.2.1 16 = .ok (.iconst 2, 1) ∧ 16 + 1 = 17 := ⟨dcAll_e (i := 9) da_X6_arctan_0 rfl, rfl⟩
theorem q_X6_arctan_17 : decode M_X6_arctan.2.1 17 = .ok (.iload_n 1, 1) ∧ 17 + 1 = 18 := ⟨dcAll_e (i := 10) da_X6_arctan_0 rfl, rfl⟩
theorem q_X6_arctan_18 : decode M_X6_arctan.2.1 18 = .ok (.i2l, 1) ∧ 18 + 1 = 19 := ⟨dcAll_e (i := 11) da_X6_arctan_0 rfl, rfl⟩
theorem q_X6_arctan_19 : decode M_X6_arctan.2.1 19 = .ok (.lconst 1, 1) ∧ 19 + 1 = 20 := ⟨dcAll_e (i := 12) da_X6_arctan_0 rfl, rfl⟩
theorem q_X6_arctan_20 : decode M_X6_arctan.2.1 20 = .ok (.iconst 0, 1) ∧ 20 + 1 = 21 := ⟨dcAll_e (i := 13) da_X6_arctan_0 rfl, rfl⟩
theorem q_X6_arctan_21 : decode M_X6_arctan.2.1 21 = .ok (.iconst 0, 1) ∧ 21 + 1 = 22 := ⟨dcAll_e (i := 14) da_X6_arctan_0 rfl, rfl⟩
theorem q_X6_arctan_22 : decode M_X6_arctan.2.1 22 = .ok (.invokevirtual 58, 3) ∧ 22 + 3 = 25 := ⟨dcAll_e (i := 15) da_X6_arctan_0 rfl, rfl⟩
theorem g_X6_arctan_22 : en_C M_X6_arctan M_X6_make 58 5 := ⟨⟨inT1 198 rfl rfl, in_X6, cd_X6_make⟩, ⟨by decide, by decide, by decide +kernel⟩, by decide, by decide⟩
theorem q_X6_arctan_25 : decode M_X6_arctan.2.1 25 = .ok (.ireturn, 1) ∧ 25 + 1 = 26 := ⟨dcAll_e (i := 16) da_X6_arctan_0 rfl, rfl⟩
def dl_X6_artanh_0 : List (Nat × Instr × Nat) := [(0, .iload_n 1, 1), (1, .iconst 2, 1), (2, .if_icmp .lt 9, 3), (5, .iload_n 1, 1), (6, .ldc 62, 2), (8, .if_icmp .le 7, 3), (11, .iconst (-1), 1), (12, .goto 13, 3), (15, .aload_n 0, 1), (16, .iconst 3, 1), (17, .iload_n 1, 1), (18, .i2l, 1), (19, .lconst 1, 1), (20, .iconst 0, 1), (21, .iconst 0, 1), (22, .invokevirtual 58, 3), (25, .ireturn, 1)]
theorem da_X6_artanh_0 : dcAll M_X6_artanh.2.1 dl_X6_artanh_0 = true := by decide +kernel
theorem q_X6_artanh_0 : decode M_X6_artanh.2.1 0 = .ok (.iload_n 1, 1) ∧ 0 + 1 = 1 := ⟨dcAll_e (i := 0) da_X6_artanh_0 rfl, rfl⟩
theorem q_X6_artanh_1 : decode M_X6_artanh.2.1 1 = .ok (.iconst 2, 1) ∧ 1 + 1 = 2 := ⟨dcAll_e (i := 1) da_X6_artanh_0 rfl, rfl⟩
theorem q_X6_artanh_2 : decode M_X6_artanh.2.1 2 = .ok (.if_icmp .lt 9, 3) ∧ 2 + 3 = 5 ∧ ((2 : Nat) : Int) + 9 = ((11 : Nat) : Int) := ⟨dcAll_e (i := 2) da_X6_artanh_0 rfl, rfl, rfl⟩
theorem q_X6_artanh_5 : decode M_X6_artanh.2.1 5 = .ok (.iload_n 1, 1) ∧ 5 + 1 = 6 := ⟨dcAll_e (i := 3) da_X6_artanh_0 rfl, rfl⟩
theorem q_X6_artanh_6 : decode M_X6_artanh.2.1 6 = .ok (.ldc 62, 2) ∧ 6 + 2 = 8 := ⟨dcAll_e (i := 4) da_X6_artanh_0 rfl, rfl⟩
theorem q_X6_artanh_8 : decode M_X6_artanh.2.1 8 = .ok (.if_icmp .le 7, 3) ∧ 8 + 3 = 11 ∧ ((8 : Nat) : Int) + 7 = ((15 : Nat) : Int) := ⟨dcAll_e (i := 5) da_X6_artanh_0 rfl, rfl, rfl⟩
theorem q_X6_artanh_11 : decode M_X6_artanh.2.1 11 = .ok (.iconst (-1), 1) ∧ 11 + 1 = 12 := ⟨dcAll_e (i := 6) da_X6_artanh_0 rfl, rfl⟩
theorem q_X6_artanh_12 : decode M_X6_artanh.2.1 12 = .ok (.goto 13, 3) ∧ 12 + 3 = 15 ∧ ((12 : Nat) : Int) + 13 = ((25 : Nat) : Int) := ⟨dcAll_e (i := 7) da_X6_artanh_0 rfl, rfl, rfl⟩
theorem q_X6_artanh_15 : decode M_X6_artanh.2.1 15 = .ok (.aload_n 0, 1) ∧ 15 + 1 = 16 := ⟨dcAll_e (i := 8) da_X6_artanh_0 rfl, rfl⟩
theorem q_X6_artanh_16 : decode M_X6_artanh.2.1 16 = .ok (.iconst 3, 1) ∧ 16 + 1 = 17 := ⟨dcAll_e (i := 9) da_X6_artanh_0 rfl, rfl⟩
theorem q_X6_artanh_17 : decode M_X6_artanh.2.1 17 = .ok (.iload_n 1, 1) ∧ 17 + 1 = 18 := ⟨dcAll_e (i := 10) da_X6_artanh_0 rfl, rfl⟩
theorem q_X6_artanh_18 : decode M_X6_artanh.2.1 18 = .ok (.i2l, 1) ∧ 18 + 1 = 19 := ⟨dcAll_e (i := 11) da_X6_artanh_0 rfl, rfl⟩
theorem q_X6_artanh_19 : decode M_X6_artanh.2.1 19 = .ok (.lconst 1, 1) ∧ 19 + 1 = 20 := ⟨dcAll_e (i := 12) da_X6_artanh_0 rfl, rfl⟩
theorem q_X6_artanh_20 : decode M_X6_artanh.2.1 20 = .ok (.iconst 0, 1) ∧ 20 + 1 = 21 := ⟨dcAll_e (i := 13) da_X6_artanh_0 rfl, rfl⟩
theorem q_X6_artanh_21 : decode M_X6_artanh.2.1 21 = .ok (.iconst 0, 1) ∧ 21 + 1 = 22 := ⟨dcAll_e (i := 14) da_X6_artanh_0 rfl, rfl⟩
theorem q_X6_artanh_22 : decode M_X6_artanh.2.1 22 = .ok (.invokevirtual 58, 3) ∧ 22 + 3 = 25 := ⟨dcAll_e (i := 15) da_X6_artanh_0 rfl, rfl⟩
theorem g_X6_artanh_22 : en_C M_X6_artanh M_X6_make 58 5 := ⟨⟨inT1 198 rfl rfl, in_X6, cd_X6_make⟩, ⟨by decide, by decide, by decide +kernel⟩, by decide, by decide⟩
theorem q_X6_artanh_25 : decode M_X6_artanh.2.1 25 = .ok (.ireturn, 1) ∧ 25 + 1 = 26 := ⟨dcAll_e (i := 16) da_X6_artanh_0 rfl, rfl⟩
def dl_X6_power_0 : List (Nat × Instr × Nat) := [(0, .iload_n 1, 1), (1, .ifCond .eq 30, 3), (4, .iload_n 2, 1), (5, .iconst 1, 1), (6, .if_icmp .lt 25, 3), (9, .iload_n 2, 1), (10, .sipush 1000, 3), (13, .if_icmp .gt 18, 3), (16, .iload_n 1, 1), (17, .bipush (-5), 2), (19, .iload_n 2, 1), (20, .imul, 1), (21, .if_icmp .lt 10, 3), (24, .iload_n 1, 1), (25, .iconst 5, 1), (26, .iload_n 2, 1), (27, .imul, 1), (28, .if_icmp .le 5, 3), (31, .iconst (-1), 1), (32, .ireturn, 1), (33, .aload_n 0, 1), (34, .iconst 4, 1), (35, .iload_n 1, 1), (36, .i2l, 1), (37, .iload_n 2, 1), (38, .i2l, 1), (39, .iconst 0, 1), (40, .iconst 0, 1), (41, .invokevirtual 58, 3), (44, .ireturn, 1)]
theorem da_X6_power_0 : dcAll M_X6_power.2.1 dl_X6_power_0 = true := by decide +kernel
theorem q_X6_power_0 : decode M_X6_power.2.1 0 = .ok (.iload_n 1, 1) ∧ 0 + 1 = 1 := ⟨dcAll_e (i := 0) da_X6_power_0 rfl, rfl⟩
theorem q_X6_power_1 : decode M_X6_power.2.1 1 = .ok (.ifCond .eq 30, 3) ∧ 1 + 3 = 4 ∧ ((1 : Nat) : Int) + 30 = ((31 : Nat) : Int) := ⟨dcAll_e (i := 1) da_X6_power_0 rfl, rfl, rfl⟩
theorem q_X6_power_4 : decode M_X6_power.2.1 4 = .ok (.iload_n 2, 1) ∧ 4 + 1 = 5 := ⟨dcAll_e (i := 2) da_X6_power_0 rfl, rfl⟩
theorem q_X6_power_5 : decode M_X6_power.2.1 5 = .ok (.iconst 1, 1) ∧ 5 + 1 = 6 := ⟨dcAll_e (i := 3) da_X6_power_0 rfl, rfl⟩
theorem q_X6_power_6 : decode M_X6_power.2.1 6 = .ok (.if_icmp .lt 25, 3) ∧ 6 + 3 = 9 ∧ ((6 : Nat) : Int) + 25 = ((31 : Nat) : Int) := ⟨dcAll_e (i := 4) da_X6_power_0 rfl, rfl, rfl⟩
theorem q_X6_power_9 : decode M_X6_power.2.1 9 = .ok (.iload_n 2, 1) ∧ 9 + 1 = 10 := ⟨dcAll_e (i := 5) da_X6_power_0 rfl, rfl⟩
theorem q_X6_power_10 : decode M_X6_power.2.1 10 = .ok (.sipush 1000, 3) ∧ 10 + 3 = 13 := ⟨dcAll_e (i := 6) da_X6_power_0 rfl, rfl⟩
theorem q_X6_power_13 : decode M_X6_power.2.1 13 = .ok (.if_icmp .gt 18, 3) ∧ 13 + 3 = 16 ∧ ((13 : Nat) : Int) + 18 = ((31 : Nat) : Int) := ⟨dcAll_e (i := 7) da_X6_power_0 rfl, rfl, rfl⟩
theorem q_X6_power_16 : decode M_X6_power.2.1 16 = .ok (.iload_n 1, 1) ∧ 16 + 1 = 17 := ⟨dcAll_e (i := 8) da_X6_power_0 rfl, rfl⟩
theorem q_X6_power_17 : decode M_X6_power.2.1 17 = .ok (.bipush (-5), 2) ∧ 17 + 2 = 19 := ⟨dcAll_e (i := 9) da_X6_power_0 rfl, rfl⟩
theorem q_X6_power_19 : decode M_X6_power.2.1 19 = .ok (.iload_n 2, 1) ∧ 19 + 1 = 20 := ⟨dcAll_e (i := 10) da_X6_power_0 rfl, rfl⟩
theorem q_X6_power_20 : decode M_X6_power.2.1 20 = .ok (.imul, 1) ∧ 20 + 1 = 21 := ⟨dcAll_e (i := 11) da_X6_power_0 rfl, rfl⟩
theorem q_X6_power_21 : decode M_X6_power.2.1 21 = .ok (.if_icmp .lt 10, 3) ∧ 21 + 3 = 24 ∧ ((21 : Nat) : Int) + 10 = ((31 : Nat) : Int) := ⟨dcAll_e (i := 12) da_X6_power_0 rfl, rfl, rfl⟩
theorem q_X6_power_24 : decode M_X6_power.2.1 24 = .ok (.iload_n 1, 1) ∧ 24 + 1 = 25 := ⟨dcAll_e (i := 13) da_X6_power_0 rfl, rfl⟩
theorem q_X6_power_25 : decode M_X6_power.2.1 25 = .ok (.iconst 5, 1) ∧ 25 + 1 = 26 := ⟨dcAll_e (i := 14) da_X6_power_0 rfl, rfl⟩
theorem q_X6_power_26 : decode M_X6_power.2.1 26 = .ok (.iload_n 2, 1) ∧ 26 + 1 = 27 := ⟨dcAll_e (i := 15) da_X6_power_0 rfl, rfl⟩
theorem q_X6_power_27 : decode M_X6_power.2.1 27 = .ok (.imul, 1) ∧ 27 + 1 = 28 := ⟨dcAll_e (i := 16) da_X6_power_0 rfl, rfl⟩
theorem q_X6_power_28 : decode M_X6_power.2.1 28 = .ok (.if_icmp .le 5, 3) ∧ 28 + 3 = 31 ∧ ((28 : Nat) : Int) + 5 = ((33 : Nat) : Int) := ⟨dcAll_e (i := 17) da_X6_power_0 rfl, rfl, rfl⟩
theorem q_X6_power_31 : decode M_X6_power.2.1 31 = .ok (.iconst (-1), 1) ∧ 31 + 1 = 32 := ⟨dcAll_e (i := 18) da_X6_power_0 rfl, rfl⟩
theorem q_X6_power_32 : decode M_X6_power.2.1 32 = .ok (.ireturn, 1) ∧ 32 + 1 = 33 := ⟨dcAll_e (i := 19) da_X6_power_0 rfl, rfl⟩
theorem q_X6_power_33 : decode M_X6_power.2.1 33 = .ok (.aload_n 0, 1) ∧ 33 + 1 = 34 := ⟨dcAll_e (i := 20) da_X6_power_0 rfl, rfl⟩
theorem q_X6_power_34 : decode M_X6_power.2.1 34 = .ok (.iconst 4, 1) ∧ 34 + 1 = 35 := ⟨dcAll_e (i := 21) da_X6_power_0 rfl, rfl⟩
theorem q_X6_power_35 : decode M_X6_power.2.1 35 = .ok (.iload_n 1, 1) ∧ 35 + 1 = 36 := ⟨dcAll_e (i := 22) da_X6_power_0 rfl, rfl⟩
theorem q_X6_power_36 : decode M_X6_power.2.1 36 = .ok (.i2l, 1) ∧ 36 + 1 = 37 := ⟨dcAll_e (i := 23) da_X6_power_0 rfl, rfl⟩
theorem q_X6_power_37 : decode M_X6_power.2.1 37 = .ok (.iload_n 2, 1) ∧ 37 + 1 = 38 := ⟨dcAll_e (i := 24) da_X6_power_0 rfl, rfl⟩
theorem q_X6_power_38 : decode M_X6_power.2.1 38 = .ok (.i2l, 1) ∧ 38 + 1 = 39 := ⟨dcAll_e (i := 25) da_X6_power_0 rfl, rfl⟩
theorem q_X6_power_39 : decode M_X6_power.2.1 39 = .ok (.iconst 0, 1) ∧ 39 + 1 = 40 := ⟨dcAll_e (i := 26) da_X6_power_0 rfl, rfl⟩
theorem q_X6_power_40 : decode M_X6_power.2.1 40 = .ok (.iconst 0, 1) ∧ 40 + 1 = 41 := ⟨dcAll_e (i := 27) da_X6_power_0 rfl, rfl⟩
theorem q_X6_power_41 : decode M_X6_power.2.1 41 = .ok (.invokevirtual 58, 3) ∧ 41 + 3 = 44 := ⟨dcAll_e (i := 28) da_X6_power_0 rfl, rfl⟩
theorem g_X6_power_41 : en_C M_X6_power M_X6_make 58 5 := ⟨⟨inT1 198 rfl rfl, in_X6, cd_X6_make⟩, ⟨by decide, by decide, by decide +kernel⟩, by decide, by decide⟩
theorem q_X6_power_44 : decode M_X6_power.2.1 44 = .ok (.ireturn, 1) ∧ 44 + 1 = 45 := ⟨dcAll_e (i := 29) da_X6_power_0 rfl, rfl⟩
def dl_X6_root_0 : List (Nat × Instr × Nat) := [(0, .aload_n 0, 1), (1, .iload_n 1, 1), (2, .invokevirtual 63, 3), (5, .ifCond .eq 15, 3), (8, .aload_n 0, 1), (9, .iconst 5, 1), (10, .lconst 0, 1), (11, .lconst 0, 1), (12, .iload_n 1, 1), (13, .iload_n 1, 1), (14, .invokevirtual 58, 3), (17, .goto 4, 3), (20, .iconst (-1), 1), (21, .ireturn, 1)]
theorem da_X6_root_0 : dcAll M_X6_root.2.1 dl_X6_root_0 = true := by decide +kernel
theorem q_X6_root_0 : decode M_X6_root.2.1 0 = .ok (.aload_n 0, 1) ∧ 0 + 1 = 1 := ⟨dcAll_e (i := 0) da_X6_root_0 rfl, rfl⟩
theorem q_X6_root_1 : decode M_X6_root.2.1 1 = .ok (.iload_n 1, 1) ∧ 1 + 1 = 2 := ⟨dcAll_e (i := 1) da_X6_root_0 rfl, rfl⟩
theorem q_X6_root_2 : decode M_X6_root.2.1 2 = .ok (.invokevirtual 63, 3) ∧ 2 + 3 = 5 := ⟨dcAll_e (i := 2) da_X6_root_0 rfl, rfl⟩
theorem cd_X6_isValue : Cond.code M_X6_isValue.1 M_X6_isValue.2.1 M_X6_isValue.2.2.1 M_X6_isValue.2.2.2.1 ∈ en_tbl := inT2 53 rfl rfl
theorem g_X6_root_2 : en_C M_X6_root M_X6_isValue 63 1 := ⟨⟨inT2 50 rfl rfl, in_X6, cd_X6_isValue⟩, ⟨by decide, by decide, by decide +kernel⟩, by decide, by decide⟩
theorem w_X6_isValue : Cond.instanceMethod M_X6_isValue.1 ∈ en_tbl ∧ Cond.selects M_X6_isValue.1.cls M_X6_isValue.1 M_X6_isValue.1 ∈ en_tbl := ⟨inT2 52 rfl rfl, by decide +kernel⟩
theorem q_X6_root_5 : decode M_X6_root.2.1 5 = .ok (.ifCond .eq 15, 3) ∧ 5 + 3 = 8 ∧ ((5 : Nat) : Int) + 15 = ((20 : Nat) : Int) := ⟨dcAll_e (i := 3) da_X6_root_0 rfl, rfl, rfl⟩
theorem q_X6_root_8 : decode M_X6_root.2.1 8 = .ok (.aload_n 0, 1) ∧ 8 + 1 = 9 := ⟨dcAll_e (i := 4) da_X6_root_0 rfl, rfl⟩
theorem q_X6_root_9 : decode M_X6_root.2.1 9 = .ok (.iconst 5, 1) ∧ 9 + 1 = 10 := ⟨dcAll_e (i := 5) da_X6_root_0 rfl, rfl⟩
theorem q_X6_root_10 : decode M_X6_root.2.1 10 = .ok (.lconst 0, 1) ∧ 10 + 1 = 11 := ⟨dcAll_e (i := 6) da_X6_root_0 rfl, rfl⟩
theorem q_X6_root_11 : decode M_X6_root.2.1 11 = .ok (.lconst 0, 1) ∧ 11 + 1 = 12 := ⟨dcAll_e (i := 7) da_X6_root_0 rfl, rfl⟩
theorem q_X6_root_12 : decode M_X6_root.2.1 12 = .ok (.iload_n 1, 1) ∧ 12 + 1 = 13 := ⟨dcAll_e (i := 8) da_X6_root_0 rfl, rfl⟩
theorem q_X6_root_13 : decode M_X6_root.2.1 13 = .ok (.iload_n 1, 1) ∧ 13 + 1 = 14 := ⟨dcAll_e (i := 9) da_X6_root_0 rfl, rfl⟩
theorem q_X6_root_14 : decode M_X6_root.2.1 14 = .ok (.invokevirtual 58, 3) ∧ 14 + 3 = 17 := ⟨dcAll_e (i := 10) da_X6_root_0 rfl, rfl⟩
theorem g_X6_root_14 : en_C M_X6_root M_X6_make 58 5 := ⟨⟨inT1 198 rfl rfl, in_X6, cd_X6_make⟩, ⟨by decide, by decide, by decide +kernel⟩, by decide, by decide⟩
theorem q_X6_root_17 : decode M_X6_root.2.1 17 = .ok (.goto 4, 3) ∧ 17 + 3 = 20 ∧ ((17 : Nat) : Int) + 4 = ((21 : Nat) : Int) := ⟨dcAll_e (i := 11) da_X6_root_0 rfl, rfl, rfl⟩
theorem q_X6_root_20 : decode M_X6_root.2.1 20 = .ok (.iconst (-1), 1) ∧ 20 + 1 = 21 := ⟨dcAll_e (i := 12) da_X6_root_0 rfl, rfl⟩
theorem q_X6_root_21 : decode M_X6_root.2.1 21 = .ok (.ireturn, 1) ∧ 21 + 1 = 22 := ⟨dcAll_e (i := 13) da_X6_root_0 rfl, rfl⟩
def dl_X6_join_0 : List (Nat × Instr × Nat) := [(0, .iload_n 1, 1), (1, .ifCond .lt 24, 3), (4, .iload_n 1, 1), (5, .iconst 3, 1), (6, .if_icmp .gt 19, 3), (9, .aload_n 0, 1), (10, .iload_n 2, 1), (11, .invokevirtual 63, 3), (14, .ifCond .eq 11, 3), (17, .aload_n 0, 1), (18, .iload_n 3, 1), (19, .invokevirtual 63, 3), (22, .ifCond .ne 5, 3), (25, .iconst (-1), 1), (26, .ireturn, 1), (27, .aload_n 0, 1), (28, .bipush 6, 2), (30, .iload_n 1, 1), (31, .iadd, 1), (32, .lconst 0, 1), (33, .lconst 0, 1), (34, .iload_n 2, 1), (35, .iload_n 3, 1), (36, .invokevirtual 58, 3), (39, .ireturn, 1)]
theorem da_X6_join_0 : dcAll M_X6_join.2.1 dl_X6_join_0 = true := by decide +kernel
theorem q_X6_join_0 : decode M_X6_join.2.1 0 = .ok (.iload_n 1, 1) ∧ 0 + 1 = 1 := ⟨dcAll_e (i := 0) da_X6_join_0 rfl, rfl⟩
theorem q_X6_join_1 : decode M_X6_join.2.1 1 = .ok (.ifCond .lt 24, 3) ∧ 1 + 3 = 4 ∧ ((1 : Nat) : Int) + 24 = ((25 : Nat) : Int) := ⟨dcAll_e (i := 1) da_X6_join_0 rfl, rfl, rfl⟩
theorem q_X6_join_4 : decode M_X6_join.2.1 4 = .ok (.iload_n 1, 1) ∧ 4 + 1 = 5 := ⟨dcAll_e (i := 2) da_X6_join_0 rfl, rfl⟩
theorem q_X6_join_5 : decode M_X6_join.2.1 5 = .ok (.iconst 3, 1) ∧ 5 + 1 = 6 := ⟨dcAll_e (i := 3) da_X6_join_0 rfl, rfl⟩
theorem q_X6_join_6 : decode M_X6_join.2.1 6 = .ok (.if_icmp .gt 19, 3) ∧ 6 + 3 = 9 ∧ ((6 : Nat) : Int) + 19 = ((25 : Nat) : Int) := ⟨dcAll_e (i := 4) da_X6_join_0 rfl, rfl, rfl⟩
theorem q_X6_join_9 : decode M_X6_join.2.1 9 = .ok (.aload_n 0, 1) ∧ 9 + 1 = 10 := ⟨dcAll_e (i := 5) da_X6_join_0 rfl, rfl⟩
theorem q_X6_join_10 : decode M_X6_join.2.1 10 = .ok (.iload_n 2, 1) ∧ 10 + 1 = 11 := ⟨dcAll_e (i := 6) da_X6_join_0 rfl, rfl⟩
theorem q_X6_join_11 : decode M_X6_join.2.1 11 = .ok (.invokevirtual 63, 3) ∧ 11 + 3 = 14 := ⟨dcAll_e (i := 7) da_X6_join_0 rfl, rfl⟩
theorem g_X6_join_11 : en_C M_X6_join M_X6_isValue 63 1 := ⟨⟨inT2 50 rfl rfl, in_X6, cd_X6_isValue⟩, ⟨by decide, by decide, by decide +kernel⟩, by decide, by decide⟩
theorem q_X6_join_14 : decode M_X6_join.2.1 14 = .ok (.ifCond .eq 11, 3) ∧ 14 + 3 = 17 ∧ ((14 : Nat) : Int) + 11 = ((25 : Nat) : Int) := ⟨dcAll_e (i := 8) da_X6_join_0 rfl, rfl, rfl⟩
theorem q_X6_join_17 : decode M_X6_join.2.1 17 = .ok (.aload_n 0, 1) ∧ 17 + 1 = 18 := ⟨dcAll_e (i := 9) da_X6_join_0 rfl, rfl⟩
theorem q_X6_join_18 : decode M_X6_join.2.1 18 = .ok (.iload_n 3, 1) ∧ 18 + 1 = 19 := ⟨dcAll_e (i := 10) da_X6_join_0 rfl, rfl⟩
theorem q_X6_join_19 : decode M_X6_join.2.1 19 = .ok (.invokevirtual 63, 3) ∧ 19 + 3 = 22 := ⟨dcAll_e (i := 11) da_X6_join_0 rfl, rfl⟩
theorem g_X6_join_19 : en_C M_X6_join M_X6_isValue 63 1 := ⟨⟨inT2 50 rfl rfl, in_X6, cd_X6_isValue⟩, ⟨by decide, by decide, by decide +kernel⟩, by decide, by decide⟩
theorem q_X6_join_22 : decode M_X6_join.2.1 22 = .ok (.ifCond .ne 5, 3) ∧ 22 + 3 = 25 ∧ ((22 : Nat) : Int) + 5 = ((27 : Nat) : Int) := ⟨dcAll_e (i := 12) da_X6_join_0 rfl, rfl, rfl⟩
theorem q_X6_join_25 : decode M_X6_join.2.1 25 = .ok (.iconst (-1), 1) ∧ 25 + 1 = 26 := ⟨dcAll_e (i := 13) da_X6_join_0 rfl, rfl⟩
theorem q_X6_join_26 : decode M_X6_join.2.1 26 = .ok (.ireturn, 1) ∧ 26 + 1 = 27 := ⟨dcAll_e (i := 14) da_X6_join_0 rfl, rfl⟩
theorem q_X6_join_27 : decode M_X6_join.2.1 27 = .ok (.aload_n 0, 1) ∧ 27 + 1 = 28 := ⟨dcAll_e (i := 15) da_X6_join_0 rfl, rfl⟩
theorem q_X6_join_28 : decode M_X6_join.2.1 28 = .ok (.bipush 6, 2) ∧ 28 + 2 = 30 := ⟨dcAll_e (i := 16) da_X6_join_0 rfl, rfl⟩
theorem q_X6_join_30 : decode M_X6_join.2.1 30 = .ok (.iload_n 1, 1) ∧ 30 + 1 = 31 := ⟨dcAll_e (i := 17) da_X6_join_0 rfl, rfl⟩
theorem q_X6_join_31 : decode M_X6_join.2.1 31 = .ok (.iadd, 1) ∧ 31 + 1 = 32 := ⟨dcAll_e (i := 18) da_X6_join_0 rfl, rfl⟩
theorem q_X6_join_32 : decode M_X6_join.2.1 32 = .ok (.lconst 0, 1) ∧ 32 + 1 = 33 := ⟨dcAll_e (i := 19) da_X6_join_0 rfl, rfl⟩
theorem q_X6_join_33 : decode M_X6_join.2.1 33 = .ok (.lconst 0, 1) ∧ 33 + 1 = 34 := ⟨dcAll_e (i := 20) da_X6_join_0 rfl, rfl⟩
theorem q_X6_join_34 : decode M_X6_join.2.1 34 = .ok (.iload_n 2, 1) ∧ 34 + 1 = 35 := ⟨dcAll_e (i := 21) da_X6_join_0 rfl, rfl⟩
theorem q_X6_join_35 : decode M_X6_join.2.1 35 = .ok (.iload_n 3, 1) ∧ 35 + 1 = 36 := ⟨dcAll_e (i := 22) da_X6_join_0 rfl, rfl⟩
theorem q_X6_join_36 : decode M_X6_join.2.1 36 = .ok (.invokevirtual 58, 3) ∧ 36 + 3 = 39 := ⟨dcAll_e (i := 23) da_X6_join_0 rfl, rfl⟩
theorem g_X6_join_36 : en_C M_X6_join M_X6_make 58 5 := ⟨⟨inT1 198 rfl rfl, in_X6, cd_X6_make⟩, ⟨by decide, by decide, by decide +kernel⟩, by decide, by decide⟩
theorem q_X6_join_39 : decode M_X6_join.2.1 39 = .ok (.ireturn, 1) ∧ 39 + 1 = 40 := ⟨dcAll_e (i := 24) da_X6_join_0 rfl, rfl⟩
def dl_X6_drop_0 : List (Nat × Instr × Nat) := [(0, .iload_n 1, 1), (1, .ifCond .lt 11, 3), (4, .iload_n 1, 1), (5, .aload_n 0, 1), (6, .getfield 67, 3), (9, .if_icmp .le 5, 3), (12, .iconst (-1), 1), (13, .ireturn, 1), (14, .aload_n 0, 1), (15, .getfield 67, 3), (18, .iload_n 1, 1), (19, .isub, 1), (20, .istore_n 2, 1), (21, .aload_n 0, 1), (22, .iload_n 1, 1), (23, .putfield 67, 3), (26, .iload_n 2, 1), (27, .ireturn, 1)]
theorem da_X6_drop_0 : dcAll M_X6_drop.2.1 dl_X6_drop_0 = true := by decide +kernel
theorem q_X6_drop_0 : decode M_X6_drop.2.1 0 = .ok (.iload_n 1, 1) ∧ 0 + 1 = 1 := ⟨dcAll_e (i := 0) da_X6_drop_0 rfl, rfl⟩
theorem q_X6_drop_1 : decode M_X6_drop.2.1 1 = .ok (.ifCond .lt 11, 3) ∧ 1 + 3 = 4 ∧ ((1 : Nat) : Int) + 11 = ((12 : Nat) : Int) := ⟨dcAll_e (i := 1) da_X6_drop_0 rfl, rfl, rfl⟩
theorem q_X6_drop_4 : decode M_X6_drop.2.1 4 = .ok (.iload_n 1, 1) ∧ 4 + 1 = 5 := ⟨dcAll_e (i := 2) da_X6_drop_0 rfl, rfl⟩
theorem q_X6_drop_5 : decode M_X6_drop.2.1 5 = .ok (.aload_n 0, 1) ∧ 5 + 1 = 6 := ⟨dcAll_e (i := 3) da_X6_drop_0 rfl, rfl⟩
theorem q_X6_drop_6 : decode M_X6_drop.2.1 6 = .ok (.getfield 67, 3) ∧ 6 + 3 = 9 := ⟨dcAll_e (i := 4) da_X6_drop_0 rfl, rfl⟩
theorem f_RX6_67 : en_F RX6 67 6 1 := ⟨RX6, TX6, 15, rfl, by decide, rfl, inT1 148 rfl rfl, uw_X6⟩
theorem q_X6_drop_9 : decode M_X6_drop.2.1 9 = .ok (.if_icmp .le 5, 3) ∧ 9 + 3 = 12 ∧ ((9 : Nat) : Int) + 5 = ((14 : Nat) : Int) := ⟨dcAll_e (i := 5) da_X6_drop_0 rfl, rfl, rfl⟩
theorem q_X6_drop_12 : decode M_X6_drop.2.1 12 = .ok (.iconst (-1), 1) ∧ 12 + 1 = 13 := ⟨dcAll_e (i := 6) da_X6_drop_0 rfl, rfl⟩
theorem q_X6_drop_13 : decode M_X6_drop.2.1 13 = .ok (.ireturn, 1) ∧ 13 + 1 = 14 := ⟨dcAll_e (i := 7) da_X6_drop_0 rfl, rfl⟩
theorem q_X6_drop_14 : decode M_X6_drop.2.1 14 = .ok (.aload_n 0, 1) ∧ 14 + 1 = 15 := ⟨dcAll_e (i := 8) da_X6_drop_0 rfl, rfl⟩
theorem q_X6_drop_15 : decode M_X6_drop.2.1 15 = .ok (.getfield 67, 3) ∧ 15 + 3 = 18 := ⟨dcAll_e (i := 9) da_X6_drop_0 rfl, rfl⟩
theorem q_X6_drop_18 : decode M_X6_drop.2.1 18 = .ok (.iload_n 1, 1) ∧ 18 + 1 = 19 := ⟨dcAll_e (i := 10) da_X6_drop_0 rfl, rfl⟩
theorem q_X6_drop_19 : decode M_X6_drop.2.1 19 = .ok (.isub, 1) ∧ 19 + 1 = 20 := ⟨dcAll_e (i := 11) da_X6_drop_0 rfl, rfl⟩
theorem q_X6_drop_20 : decode M_X6_drop.2.1 20 = .ok (.istore_n 2, 1) ∧ 20 + 1 = 21 := ⟨dcAll_e (i := 12) da_X6_drop_0 rfl, rfl⟩
theorem q_X6_drop_21 : decode M_X6_drop.2.1 21 = .ok (.aload_n 0, 1) ∧ 21 + 1 = 22 := ⟨dcAll_e (i := 13) da_X6_drop_0 rfl, rfl⟩
theorem q_X6_drop_22 : decode M_X6_drop.2.1 22 = .ok (.iload_n 1, 1) ∧ 22 + 1 = 23 := ⟨dcAll_e (i := 14) da_X6_drop_0 rfl, rfl⟩
theorem q_X6_drop_23 : decode M_X6_drop.2.1 23 = .ok (.putfield 67, 3) ∧ 23 + 3 = 26 := ⟨dcAll_e (i := 15) da_X6_drop_0 rfl, rfl⟩
theorem p_RX6_67 : en_Fp RX6 67 6 1 false .int := ⟨RX6, TX6, 15, tyX6, rfl, by decide, rfl, inT1 148 rfl rfl, uw_X6, tyX6_ok, nmX6, rfl, by decide +kernel⟩
theorem q_X6_drop_26 : decode M_X6_drop.2.1 26 = .ok (.iload_n 2, 1) ∧ 26 + 1 = 27 := ⟨dcAll_e (i := 16) da_X6_drop_0 rfl, rfl⟩
theorem q_X6_drop_27 : decode M_X6_drop.2.1 27 = .ok (.ireturn, 1) ∧ 27 + 1 = 28 := ⟨dcAll_e (i := 17) da_X6_drop_0 rfl, rfl⟩
def dl_X6_values_0 : List (Nat × Instr × Nat) := [(0, .aload_n 0, 1), (1, .getfield 67, 3), (4, .ireturn, 1)]
theorem da_X6_values_0 : dcAll M_X6_values.2.1 dl_X6_values_0 = true := by decide +kernel
theorem q_X6_values_0 : decode M_X6_values.2.1 0 = .ok (.aload_n 0, 1) ∧ 0 + 1 = 1 := ⟨dcAll_e (i := 0) da_X6_values_0 rfl, rfl⟩
theorem q_X6_values_1 : decode M_X6_values.2.1 1 = .ok (.getfield 67, 3) ∧ 1 + 3 = 4 := ⟨dcAll_e (i := 1) da_X6_values_0 rfl, rfl⟩
theorem q_X6_values_4 : decode M_X6_values.2.1 4 = .ok (.ireturn, 1) ∧ 4 + 1 = 5 := ⟨dcAll_e (i := 2) da_X6_values_0 rfl, rfl⟩
def dl_X6_digits_0 : List (Nat × Instr × Nat) := [(0, .aload_n 0, 1), (1, .iload_n 1, 1), (2, .invokevirtual 63, 3), (5, .ifCond .eq 14, 3), (8, .iload_n 2, 1), (9, .ifCond .lt 10, 3), (12, .iload_n 2, 1), (13, .sipush 400, 3), (16, .if_icmp .le 5, 3), (19, .iconst (-1), 1), (20, .ireturn, 1), (21, .aload_n 0, 1), (22, .iconst 0, 1), (23, .putfield 71, 3), (26, .iload_n 2, 1), (27, .bipush 10, 2), (29, .iadd, 1), (30, .istore_n 3, 1), (31, .iload_n 3, 1), (32, .sipush 480, 3), (35, .if_icmp .gt 80, 3), (38, .aload_n 0, 1), (39, .aload_n 0, 1), (40, .getfield 18, 3), (43, .aload_n 0, 1), (44, .getfield 11, 3), (47, .iload_n 1, 1), (48, .iload_n 3, 1), (49, .invokevirtual 74, 3), (52, .iload_n 3, 1), (53, .iload_n 2, 1), (54, .isub, 1), (55, .invokevirtual 78, 3), (58, .ifCond .eq 50, 3), (61, .aload_n 0, 1), (62, .getfield 32, 3), (65, .aload_n 0, 1), (66, .getfield 25, 3), (69, .invokevirtual 82, 3), (72, .aload_n 0, 1)]
theorem da_X6_digits_0 : dcAll M_X6_digits.2.1 dl_X6_digits_0 = true := by decide +kernel
def dl_X6_digits_1 : List (Nat × Instr × Nat) := [(73, .iconst 1, 1), (74, .aload_n 0, 1), (75, .getfield 25, 3), (78, .invokevirtual 86, 3), (81, .invokestatic 90, 3), (84, .putfield 96, 3), (87, .aload_n 0, 1), (88, .iload_n 3, 1), (89, .putfield 71, 3), (92, .aload_n 0, 1), (93, .getfield 32, 3), (96, .getfield 99, 3), (99, .ifCond .ge 7, 3), (102, .iconst 0, 1), (103, .goto 4, 3), (106, .iconst 1, 1), (107, .ireturn, 1), (108, .iload_n 3, 1), (109, .iconst 2, 1), (110, .imul, 1), (111, .istore_n 3, 1), (112, .goto (-81), 3), (115, .bipush (-3), 2), (117, .ireturn, 1)]
theorem da_X6_digits_1 : dcAll M_X6_digits.2.1 dl_X6_digits_1 = true := by decide +kernel
theorem q_X6_digits_0 : decode M_X6_digits.2.1 0 = .ok (.aload_n 0, 1) ∧ 0 + 1 = 1 := ⟨dcAll_e (i := 0) da_X6_digits_0 rfl, rfl⟩
theorem q_X6_digits_1 : decode M_X6_digits.2.1 1 = .ok (.iload_n 1, 1) ∧ 1 + 1 = 2 := ⟨dcAll_e (i := 1) da_X6_digits_0 rfl, rfl⟩
theorem q_X6_digits_2 : decode M_X6_digits.2.1 2 = .ok (.invokevirtual 63, 3) ∧ 2 + 3 = 5 := ⟨dcAll_e (i := 2) da_X6_digits_0 rfl, rfl⟩
theorem g_X6_digits_2 : en_C M_X6_digits M_X6_isValue 63 1 := ⟨⟨inT2 50 rfl rfl, in_X6, cd_X6_isValue⟩, ⟨by decide, by decide, by decide +kernel⟩, by decide, by decide⟩
theorem q_X6_digits_5 : decode M_X6_digits.2.1 5 = .ok (.ifCond .eq 14, 3) ∧ 5 + 3 = 8 ∧ ((5 : Nat) : Int) + 14 = ((19 : Nat) : Int) := ⟨dcAll_e (i := 3) da_X6_digits_0 rfl, rfl, rfl⟩
theorem q_X6_digits_8 : decode M_X6_digits.2.1 8 = .ok (.iload_n 2, 1) ∧ 8 + 1 = 9 := ⟨dcAll_e (i := 4) da_X6_digits_0 rfl, rfl⟩
theorem q_X6_digits_9 : decode M_X6_digits.2.1 9 = .ok (.ifCond .lt 10, 3) ∧ 9 + 3 = 12 ∧ ((9 : Nat) : Int) + 10 = ((19 : Nat) : Int) := ⟨dcAll_e (i := 5) da_X6_digits_0 rfl, rfl, rfl⟩
theorem q_X6_digits_12 : decode M_X6_digits.2.1 12 = .ok (.iload_n 2, 1) ∧ 12 + 1 = 13 := ⟨dcAll_e (i := 6) da_X6_digits_0 rfl, rfl⟩
theorem q_X6_digits_13 : decode M_X6_digits.2.1 13 = .ok (.sipush 400, 3) ∧ 13 + 3 = 16 := ⟨dcAll_e (i := 7) da_X6_digits_0 rfl, rfl⟩
theorem q_X6_digits_16 : decode M_X6_digits.2.1 16 = .ok (.if_icmp .le 5, 3) ∧ 16 + 3 = 19 ∧ ((16 : Nat) : Int) + 5 = ((21 : Nat) : Int) := ⟨dcAll_e (i := 8) da_X6_digits_0 rfl, rfl, rfl⟩
theorem q_X6_digits_19 : decode M_X6_digits.2.1 19 = .ok (.iconst (-1), 1) ∧ 19 + 1 = 20 := ⟨dcAll_e (i := 9) da_X6_digits_0 rfl, rfl⟩
theorem q_X6_digits_20 : decode M_X6_digits.2.1 20 = .ok (.ireturn, 1) ∧ 20 + 1 = 21 := ⟨dcAll_e (i := 10) da_X6_digits_0 rfl, rfl⟩
theorem q_X6_digits_21 : decode M_X6_digits.2.1 21 = .ok (.aload_n 0, 1) ∧ 21 + 1 = 22 := ⟨dcAll_e (i := 11) da_X6_digits_0 rfl, rfl⟩
theorem q_X6_digits_22 : decode M_X6_digits.2.1 22 = .ok (.iconst 0, 1) ∧ 22 + 1 = 23 := ⟨dcAll_e (i := 12) da_X6_digits_0 rfl, rfl⟩
theorem q_X6_digits_23 : decode M_X6_digits.2.1 23 = .ok (.putfield 71, 3) ∧ 23 + 3 = 26 := ⟨dcAll_e (i := 13) da_X6_digits_0 rfl, rfl⟩
theorem p_RX6_71 : en_Fp RX6 71 6 14 false .int := ⟨RX6, TX6, 15, tyX6, rfl, by decide, rfl, inT1 161 rfl rfl, uw_X6, tyX6_ok, nmX6, rfl, by decide +kernel⟩
theorem q_X6_digits_26 : decode M_X6_digits.2.1 26 = .ok (.iload_n 2, 1) ∧ 26 + 1 = 27 := ⟨dcAll_e (i := 14) da_X6_digits_0 rfl, rfl⟩
theorem q_X6_digits_27 : decode M_X6_digits.2.1 27 = .ok (.bipush 10, 2) ∧ 27 + 2 = 29 := ⟨dcAll_e (i := 15) da_X6_digits_0 rfl, rfl⟩
theorem q_X6_digits_29 : decode M_X6_digits.2.1 29 = .ok (.iadd, 1) ∧ 29 + 1 = 30 := ⟨dcAll_e (i := 16) da_X6_digits_0 rfl, rfl⟩
theorem q_X6_digits_30 : decode M_X6_digits.2.1 30 = .ok (.istore_n 3, 1) ∧ 30 + 1 = 31 := ⟨dcAll_e (i := 17) da_X6_digits_0 rfl, rfl⟩
theorem q_X6_digits_31 : decode M_X6_digits.2.1 31 = .ok (.iload_n 3, 1) ∧ 31 + 1 = 32 := ⟨dcAll_e (i := 18) da_X6_digits_0 rfl, rfl⟩
theorem q_X6_digits_32 : decode M_X6_digits.2.1 32 = .ok (.sipush 480, 3) ∧ 32 + 3 = 35 := ⟨dcAll_e (i := 19) da_X6_digits_0 rfl, rfl⟩
theorem q_X6_digits_35 : decode M_X6_digits.2.1 35 = .ok (.if_icmp .gt 80, 3) ∧ 35 + 3 = 38 ∧ ((35 : Nat) : Int) + 80 = ((115 : Nat) : Int) := ⟨dcAll_e (i := 20) da_X6_digits_0 rfl, rfl, rfl⟩
theorem q_X6_digits_38 : decode M_X6_digits.2.1 38 = .ok (.aload_n 0, 1) ∧ 38 + 1 = 39 := ⟨dcAll_e (i := 21) da_X6_digits_0 rfl, rfl⟩
theorem q_X6_digits_39 : decode M_X6_digits.2.1 39 = .ok (.aload_n 0, 1) ∧ 39 + 1 = 40 := ⟨dcAll_e (i := 22) da_X6_digits_0 rfl, rfl⟩
theorem q_X6_digits_40 : decode M_X6_digits.2.1 40 = .ok (.getfield 18, 3) ∧ 40 + 3 = 43 := ⟨dcAll_e (i := 23) da_X6_digits_0 rfl, rfl⟩
theorem f_RX6_18 : en_F RX6 18 6 2 := ⟨RX6, TX6, 15, rfl, by decide, rfl, inT1 149 rfl rfl, uw_X6⟩
theorem q_X6_digits_43 : decode M_X6_digits.2.1 43 = .ok (.aload_n 0, 1) ∧ 43 + 1 = 44 := ⟨dcAll_e (i := 24) da_X6_digits_0 rfl, rfl⟩
theorem q_X6_digits_44 : decode M_X6_digits.2.1 44 = .ok (.getfield 11, 3) ∧ 44 + 3 = 47 := ⟨dcAll_e (i := 25) da_X6_digits_0 rfl, rfl⟩
theorem f_RX6_11 : en_F RX6 11 6 0 := ⟨RX6, TX6, 15, rfl, by decide, rfl, inT1 147 rfl rfl, uw_X6⟩
theorem q_X6_digits_47 : decode M_X6_digits.2.1 47 = .ok (.iload_n 1, 1) ∧ 47 + 1 = 48 := ⟨dcAll_e (i := 26) da_X6_digits_0 rfl, rfl⟩
theorem q_X6_digits_48 : decode M_X6_digits.2.1 48 = .ok (.iload_n 3, 1) ∧ 48 + 1 = 49 := ⟨dcAll_e (i := 27) da_X6_digits_0 rfl, rfl⟩
theorem q_X6_digits_49 : decode M_X6_digits.2.1 49 = .ok (.invokevirtual 74, 3) ∧ 49 + 3 = 52 := ⟨dcAll_e (i := 28) da_X6_digits_0 rfl, rfl⟩
theorem cd_X2_enclosed : Cond.code M_X2_enclosed.1 M_X2_enclosed.2.1 M_X2_enclosed.2.2.1 M_X2_enclosed.2.2.2.1 ∈ en_tbl := inT2 73 rfl rfl
theorem g_X6_digits_49 : en_C M_X6_digits M_X2_enclosed 74 3 := ⟨⟨inT2 70 rfl rfl, in_X2, cd_X2_enclosed⟩, ⟨by decide, by decide, by decide +kernel⟩, by decide, by decide⟩
theorem w_X2_enclosed : Cond.instanceMethod M_X2_enclosed.1 ∈ en_tbl ∧ Cond.selects M_X2_enclosed.1.cls M_X2_enclosed.1 M_X2_enclosed.1 ∈ en_tbl := ⟨inT2 71 rfl rfl, inT2 72 rfl rfl⟩
theorem q_X6_digits_52 : decode M_X6_digits.2.1 52 = .ok (.iload_n 3, 1) ∧ 52 + 1 = 53 := ⟨dcAll_e (i := 29) da_X6_digits_0 rfl, rfl⟩
theorem q_X6_digits_53 : decode M_X6_digits.2.1 53 = .ok (.iload_n 2, 1) ∧ 53 + 1 = 54 := ⟨dcAll_e (i := 30) da_X6_digits_0 rfl, rfl⟩
theorem q_X6_digits_54 : decode M_X6_digits.2.1 54 = .ok (.isub, 1) ∧ 54 + 1 = 55 := ⟨dcAll_e (i := 31) da_X6_digits_0 rfl, rfl⟩
theorem q_X6_digits_55 : decode M_X6_digits.2.1 55 = .ok (.invokevirtual 78, 3) ∧ 55 + 3 = 58 := ⟨dcAll_e (i := 32) da_X6_digits_0 rfl, rfl⟩
theorem cd_X6_digitsAreTold : Cond.code M_X6_digitsAreTold.1 M_X6_digitsAreTold.2.1 M_X6_digitsAreTold.2.2.1 M_X6_digitsAreTold.2.2.2.1 ∈ en_tbl := inT3 79 rfl rfl
theorem g_X6_digits_55 : en_C M_X6_digits M_X6_digitsAreTold 78 2 := ⟨⟨inT3 76 rfl rfl, in_X6, cd_X6_digitsAreTold⟩, ⟨by decide, by decide, by decide +kernel⟩, by decide, by decide⟩
theorem w_X6_digitsAreTold : Cond.instanceMethod M_X6_digitsAreTold.1 ∈ en_tbl ∧ Cond.selects M_X6_digitsAreTold.1.cls M_X6_digitsAreTold.1 M_X6_digitsAreTold.1 ∈ en_tbl := ⟨inT3 78 rfl rfl, by decide +kernel⟩
theorem q_X6_digits_58 : decode M_X6_digits.2.1 58 = .ok (.ifCond .eq 50, 3) ∧ 58 + 3 = 61 ∧ ((58 : Nat) : Int) + 50 = ((108 : Nat) : Int) := ⟨dcAll_e (i := 33) da_X6_digits_0 rfl, rfl, rfl⟩
theorem q_X6_digits_61 : decode M_X6_digits.2.1 61 = .ok (.aload_n 0, 1) ∧ 61 + 1 = 62 := ⟨dcAll_e (i := 34) da_X6_digits_0 rfl, rfl⟩
theorem q_X6_digits_62 : decode M_X6_digits.2.1 62 = .ok (.getfield 32, 3) ∧ 62 + 3 = 65 := ⟨dcAll_e (i := 35) da_X6_digits_0 rfl, rfl⟩
theorem f_RX6_32 : en_F RX6 32 6 5 := ⟨RX6, TX6, 15, rfl, by decide, rfl, inT1 152 rfl rfl, uw_X6⟩
theorem q_X6_digits_65 : decode M_X6_digits.2.1 65 = .ok (.aload_n 0, 1) ∧ 65 + 1 = 66 := ⟨dcAll_e (i := 36) da_X6_digits_0 rfl, rfl⟩
theorem q_X6_digits_66 : decode M_X6_digits.2.1 66 = .ok (.getfield 25, 3) ∧ 66 + 3 = 69 := ⟨dcAll_e (i := 37) da_X6_digits_0 rfl, rfl⟩
theorem f_RX6_25 : en_F RX6 25 6 3 := ⟨RX6, TX6, 15, rfl, by decide, rfl, inT1 150 rfl rfl, uw_X6⟩
theorem q_X6_digits_69 : decode M_X6_digits.2.1 69 = .ok (.invokevirtual 82, 3) ∧ 69 + 3 = 72 := ⟨dcAll_e (i := 38) da_X6_digits_0 rfl, rfl⟩
theorem g_X6_digits_69 : en_C M_X6_digits M_X1_copy 82 1 := ⟨⟨inT3 80 rfl rfl, in_X1, cd_X1_copy⟩, ⟨by decide, by decide, by decide +kernel⟩, by decide, by decide⟩
theorem q_X6_digits_72 : decode M_X6_digits.2.1 72 = .ok (.aload_n 0, 1) ∧ 72 + 1 = 73 := ⟨dcAll_e (i := 39) da_X6_digits_0 rfl, rfl⟩
theorem q_X6_digits_73 : decode M_X6_digits.2.1 73 = .ok (.iconst 1, 1) ∧ 73 + 1 = 74 := ⟨dcAll_e (i := 0) da_X6_digits_1 rfl, rfl⟩
theorem q_X6_digits_74 : decode M_X6_digits.2.1 74 = .ok (.aload_n 0, 1) ∧ 74 + 1 = 75 := ⟨dcAll_e (i := 1) da_X6_digits_1 rfl, rfl⟩
theorem q_X6_digits_75 : decode M_X6_digits.2.1 75 = .ok (.getfield 25, 3) ∧ 75 + 3 = 78 := ⟨dcAll_e (i := 2) da_X6_digits_1 rfl, rfl⟩
theorem q_X6_digits_78 : decode M_X6_digits.2.1 78 = .ok (.invokevirtual 86, 3) ∧ 78 + 3 = 81 := ⟨dcAll_e (i := 3) da_X6_digits_1 rfl, rfl⟩
theorem g_X6_digits_78 : en_C M_X6_digits M_X1_digitCount 86 0 := ⟨⟨inT3 83 rfl rfl, in_X1, cd_X1_digitCount⟩, ⟨by decide, by decide, by decide +kernel⟩, by decide, by decide⟩
theorem q_X6_digits_81 : decode M_X6_digits.2.1 81 = .ok (.invokestatic 90, 3) ∧ 81 + 3 = 84 := ⟨dcAll_e (i := 4) da_X6_digits_1 rfl, rfl⟩
theorem a_RX6_90 : Cond.methodLink RX6 90 Lib.Math.max.name ∈ en_tbl := by decide +kernel
theorem q_X6_digits_84 : decode M_X6_digits.2.1 84 = .ok (.putfield 96, 3) ∧ 84 + 3 = 87 := ⟨dcAll_e (i := 5) da_X6_digits_1 rfl, rfl⟩
theorem p_RX6_96 : en_Fp RX6 96 6 6 false .int := ⟨RX6, TX6, 15, tyX6, rfl, by decide, rfl, inT1 153 rfl rfl, uw_X6, tyX6_ok, nmX6, rfl, by decide +kernel⟩
theorem q_X6_digits_87 : decode M_X6_digits.2.1 87 = .ok (.aload_n 0, 1) ∧ 87 + 1 = 88 := ⟨dcAll_e (i := 6) da_X6_digits_1 rfl, rfl⟩
theorem q_X6_digits_88 : decode M_X6_digits.2.1 88 = .ok (.iload_n 3, 1) ∧ 88 + 1 = 89 := ⟨dcAll_e (i := 7) da_X6_digits_1 rfl, rfl⟩
theorem q_X6_digits_89 : decode M_X6_digits.2.1 89 = .ok (.putfield 71, 3) ∧ 89 + 3 = 92 := ⟨dcAll_e (i := 8) da_X6_digits_1 rfl, rfl⟩
theorem q_X6_digits_92 : decode M_X6_digits.2.1 92 = .ok (.aload_n 0, 1) ∧ 92 + 1 = 93 := ⟨dcAll_e (i := 9) da_X6_digits_1 rfl, rfl⟩
theorem q_X6_digits_93 : decode M_X6_digits.2.1 93 = .ok (.getfield 32, 3) ∧ 93 + 3 = 96 := ⟨dcAll_e (i := 10) da_X6_digits_1 rfl, rfl⟩
theorem q_X6_digits_96 : decode M_X6_digits.2.1 96 = .ok (.getfield 99, 3) ∧ 96 + 3 = 99 := ⟨dcAll_e (i := 11) da_X6_digits_1 rfl, rfl⟩
theorem f_RX6_99 : en_F RX6 99 1 0 := ⟨RX1, TX1, 3, rfl, by decide, rfl, inT1 44 rfl rfl, uw_X1⟩
theorem q_X6_digits_99 : decode M_X6_digits.2.1 99 = .ok (.ifCond .ge 7, 3) ∧ 99 + 3 = 102 ∧ ((99 : Nat) : Int) + 7 = ((106 : Nat) : Int) := ⟨dcAll_e (i := 12) da_X6_digits_1 rfl, rfl, rfl⟩
theorem q_X6_digits_102 : decode M_X6_digits.2.1 102 = .ok (.iconst 0, 1) ∧ 102 + 1 = 103 := ⟨dcAll_e (i := 13) da_X6_digits_1 rfl, rfl⟩
theorem q_X6_digits_103 : decode M_X6_digits.2.1 103 = .ok (.goto 4, 3) ∧ 103 + 3 = 106 ∧ ((103 : Nat) : Int) + 4 = ((107 : Nat) : Int) := ⟨dcAll_e (i := 14) da_X6_digits_1 rfl, rfl, rfl⟩
theorem q_X6_digits_106 : decode M_X6_digits.2.1 106 = .ok (.iconst 1, 1) ∧ 106 + 1 = 107 := ⟨dcAll_e (i := 15) da_X6_digits_1 rfl, rfl⟩
theorem q_X6_digits_107 : decode M_X6_digits.2.1 107 = .ok (.ireturn, 1) ∧ 107 + 1 = 108 := ⟨dcAll_e (i := 16) da_X6_digits_1 rfl, rfl⟩
theorem q_X6_digits_108 : decode M_X6_digits.2.1 108 = .ok (.iload_n 3, 1) ∧ 108 + 1 = 109 := ⟨dcAll_e (i := 17) da_X6_digits_1 rfl, rfl⟩
theorem q_X6_digits_109 : decode M_X6_digits.2.1 109 = .ok (.iconst 2, 1) ∧ 109 + 1 = 110 := ⟨dcAll_e (i := 18) da_X6_digits_1 rfl, rfl⟩
theorem q_X6_digits_110 : decode M_X6_digits.2.1 110 = .ok (.imul, 1) ∧ 110 + 1 = 111 := ⟨dcAll_e (i := 19) da_X6_digits_1 rfl, rfl⟩
theorem q_X6_digits_111 : decode M_X6_digits.2.1 111 = .ok (.istore_n 3, 1) ∧ 111 + 1 = 112 := ⟨dcAll_e (i := 20) da_X6_digits_1 rfl, rfl⟩
theorem q_X6_digits_112 : decode M_X6_digits.2.1 112 = .ok (.goto (-81), 3) ∧ 112 + 3 = 115 ∧ ((112 : Nat) : Int) + (-81) = ((31 : Nat) : Int) := ⟨dcAll_e (i := 21) da_X6_digits_1 rfl, rfl, rfl⟩
theorem q_X6_digits_115 : decode M_X6_digits.2.1 115 = .ok (.bipush (-3), 2) ∧ 115 + 2 = 117 := ⟨dcAll_e (i := 22) da_X6_digits_1 rfl, rfl⟩
theorem q_X6_digits_117 : decode M_X6_digits.2.1 117 = .ok (.ireturn, 1) ∧ 117 + 1 = 118 := ⟨dcAll_e (i := 23) da_X6_digits_1 rfl, rfl⟩
def dl_X6_digit_0 : List (Nat × Instr × Nat) := [(0, .iload_n 1, 1), (1, .ifCond .ge 7, 3), (4, .iconst (-1), 1), (5, .goto 11, 3), (8, .aload_n 0, 1), (9, .getfield 32, 3), (12, .iload_n 1, 1), (13, .invokevirtual 102, 3), (16, .ireturn, 1)]
theorem da_X6_digit_0 : dcAll M_X6_digit.2.1 dl_X6_digit_0 = true := by decide +kernel
theorem q_X6_digit_0 : decode M_X6_digit.2.1 0 = .ok (.iload_n 1, 1) ∧ 0 + 1 = 1 := ⟨dcAll_e (i := 0) da_X6_digit_0 rfl, rfl⟩
theorem q_X6_digit_1 : decode M_X6_digit.2.1 1 = .ok (.ifCond .ge 7, 3) ∧ 1 + 3 = 4 ∧ ((1 : Nat) : Int) + 7 = ((8 : Nat) : Int) := ⟨dcAll_e (i := 1) da_X6_digit_0 rfl, rfl, rfl⟩
theorem q_X6_digit_4 : decode M_X6_digit.2.1 4 = .ok (.iconst (-1), 1) ∧ 4 + 1 = 5 := ⟨dcAll_e (i := 2) da_X6_digit_0 rfl, rfl⟩
theorem q_X6_digit_5 : decode M_X6_digit.2.1 5 = .ok (.goto 11, 3) ∧ 5 + 3 = 8 ∧ ((5 : Nat) : Int) + 11 = ((16 : Nat) : Int) := ⟨dcAll_e (i := 3) da_X6_digit_0 rfl, rfl, rfl⟩
theorem q_X6_digit_8 : decode M_X6_digit.2.1 8 = .ok (.aload_n 0, 1) ∧ 8 + 1 = 9 := ⟨dcAll_e (i := 4) da_X6_digit_0 rfl, rfl⟩
theorem q_X6_digit_9 : decode M_X6_digit.2.1 9 = .ok (.getfield 32, 3) ∧ 9 + 3 = 12 := ⟨dcAll_e (i := 5) da_X6_digit_0 rfl, rfl⟩
theorem q_X6_digit_12 : decode M_X6_digit.2.1 12 = .ok (.iload_n 1, 1) ∧ 12 + 1 = 13 := ⟨dcAll_e (i := 6) da_X6_digit_0 rfl, rfl⟩
theorem q_X6_digit_13 : decode M_X6_digit.2.1 13 = .ok (.invokevirtual 102, 3) ∧ 13 + 3 = 16 := ⟨dcAll_e (i := 7) da_X6_digit_0 rfl, rfl⟩
theorem cd_X1_digitAt : Cond.code M_X1_digitAt.1 M_X1_digitAt.2.1 M_X1_digitAt.2.2.1 M_X1_digitAt.2.2.2.1 ∈ en_tbl := inT3 92 rfl rfl
theorem g_X6_digit_13 : en_C M_X6_digit M_X1_digitAt 102 1 := ⟨⟨inT3 89 rfl rfl, in_X1, cd_X1_digitAt⟩, ⟨by decide, by decide, by decide +kernel⟩, by decide, by decide⟩
theorem w_X1_digitAt : Cond.instanceMethod M_X1_digitAt.1 ∈ en_tbl ∧ Cond.selects M_X1_digitAt.1.cls M_X1_digitAt.1 M_X1_digitAt.1 ∈ en_tbl := ⟨inT3 90 rfl rfl, inT3 91 rfl rfl⟩
theorem q_X6_digit_16 : decode M_X6_digit.2.1 16 = .ok (.ireturn, 1) ∧ 16 + 1 = 17 := ⟨dcAll_e (i := 8) da_X6_digit_0 rfl, rfl⟩
def dl_X6_length_0 : List (Nat × Instr × Nat) := [(0, .aload_n 0, 1), (1, .getfield 96, 3), (4, .ireturn, 1)]
theorem da_X6_length_0 : dcAll M_X6_length.2.1 dl_X6_length_0 = true := by decide +kernel
theorem q_X6_length_0 : decode M_X6_length.2.1 0 = .ok (.aload_n 0, 1) ∧ 0 + 1 = 1 := ⟨dcAll_e (i := 0) da_X6_length_0 rfl, rfl⟩
theorem q_X6_length_1 : decode M_X6_length.2.1 1 = .ok (.getfield 96, 3) ∧ 1 + 3 = 4 := ⟨dcAll_e (i := 1) da_X6_length_0 rfl, rfl⟩
theorem f_RX6_96 : en_F RX6 96 6 6 := ⟨RX6, TX6, 15, rfl, by decide, rfl, inT1 153 rfl rfl, uw_X6⟩
theorem q_X6_length_4 : decode M_X6_length.2.1 4 = .ok (.ireturn, 1) ∧ 4 + 1 = 5 := ⟨dcAll_e (i := 2) da_X6_length_0 rfl, rfl⟩
def dl_X6_enclose_0 : List (Nat × Instr × Nat) := [(0, .aload_n 0, 1), (1, .iload_n 1, 1), (2, .invokevirtual 63, 3), (5, .ifCond .eq 15, 3), (8, .iload_n 2, 1), (9, .iconst 1, 1), (10, .if_icmp .lt 10, 3), (13, .iload_n 2, 1), (14, .sipush 480, 3), (17, .if_icmp .le 5, 3), (20, .iconst (-1), 1), (21, .ireturn, 1), (22, .aload_n 0, 1), (23, .getfield 18, 3), (26, .aload_n 0, 1), (27, .getfield 11, 3), (30, .iload_n 1, 1), (31, .iload_n 2, 1), (32, .invokevirtual 74, 3), (35, .astore_n 3, 1), (36, .aload_n 3, 1), (37, .ifnull 10, 3), (40, .aload_n 3, 1), (41, .getfield 106, 3), (44, .ifCond .eq 6, 3), (47, .bipush (-3), 2), (49, .ireturn, 1), (50, .aload_n 0, 1), (51, .getfield 35, 3), (54, .aload_n 3, 1), (55, .getfield 110, 3), (58, .invokevirtual 82, 3), (61, .aload_n 0, 1), (62, .getfield 38, 3), (65, .aload_n 3, 1), (66, .getfield 113, 3), (69, .invokevirtual 82, 3), (72, .iconst 1, 1), (73, .ireturn, 1)]
theorem da_X6_enclose_0 : dcAll M_X6_enclose.2.1 dl_X6_enclose_0 = true := by decide +kernel
theorem q_X6_enclose_0 : decode M_X6_enclose.2.1 0 = .ok (.aload_n 0, 1) ∧ 0 + 1 = 1 := ⟨dcAll_e (i := 0) da_X6_enclose_0 rfl, rfl⟩
theorem q_X6_enclose_1 : decode M_X6_enclose.2.1 1 = .ok (.iload_n 1, 1) ∧ 1 + 1 = 2 := ⟨dcAll_e (i := 1) da_X6_enclose_0 rfl, rfl⟩
theorem q_X6_enclose_2 : decode M_X6_enclose.2.1 2 = .ok (.invokevirtual 63, 3) ∧ 2 + 3 = 5 := ⟨dcAll_e (i := 2) da_X6_enclose_0 rfl, rfl⟩
theorem g_X6_enclose_2 : en_C M_X6_enclose M_X6_isValue 63 1 := ⟨⟨inT2 50 rfl rfl, in_X6, cd_X6_isValue⟩, ⟨by decide, by decide, by decide +kernel⟩, by decide, by decide⟩
theorem q_X6_enclose_5 : decode M_X6_enclose.2.1 5 = .ok (.ifCond .eq 15, 3) ∧ 5 + 3 = 8 ∧ ((5 : Nat) : Int) + 15 = ((20 : Nat) : Int) := ⟨dcAll_e (i := 3) da_X6_enclose_0 rfl, rfl, rfl⟩
theorem q_X6_enclose_8 : decode M_X6_enclose.2.1 8 = .ok (.iload_n 2, 1) ∧ 8 + 1 = 9 := ⟨dcAll_e (i := 4) da_X6_enclose_0 rfl, rfl⟩
theorem q_X6_enclose_9 : decode M_X6_enclose.2.1 9 = .ok (.iconst 1, 1) ∧ 9 + 1 = 10 := ⟨dcAll_e (i := 5) da_X6_enclose_0 rfl, rfl⟩
theorem q_X6_enclose_10 : decode M_X6_enclose.2.1 10 = .ok (.if_icmp .lt 10, 3) ∧ 10 + 3 = 13 ∧ ((10 : Nat) : Int) + 10 = ((20 : Nat) : Int) := ⟨dcAll_e (i := 6) da_X6_enclose_0 rfl, rfl, rfl⟩
theorem q_X6_enclose_13 : decode M_X6_enclose.2.1 13 = .ok (.iload_n 2, 1) ∧ 13 + 1 = 14 := ⟨dcAll_e (i := 7) da_X6_enclose_0 rfl, rfl⟩
theorem q_X6_enclose_14 : decode M_X6_enclose.2.1 14 = .ok (.sipush 480, 3) ∧ 14 + 3 = 17 := ⟨dcAll_e (i := 8) da_X6_enclose_0 rfl, rfl⟩
theorem q_X6_enclose_17 : decode M_X6_enclose.2.1 17 = .ok (.if_icmp .le 5, 3) ∧ 17 + 3 = 20 ∧ ((17 : Nat) : Int) + 5 = ((22 : Nat) : Int) := ⟨dcAll_e (i := 9) da_X6_enclose_0 rfl, rfl, rfl⟩
theorem q_X6_enclose_20 : decode M_X6_enclose.2.1 20 = .ok (.iconst (-1), 1) ∧ 20 + 1 = 21 := ⟨dcAll_e (i := 10) da_X6_enclose_0 rfl, rfl⟩
theorem q_X6_enclose_21 : decode M_X6_enclose.2.1 21 = .ok (.ireturn, 1) ∧ 21 + 1 = 22 := ⟨dcAll_e (i := 11) da_X6_enclose_0 rfl, rfl⟩
theorem q_X6_enclose_22 : decode M_X6_enclose.2.1 22 = .ok (.aload_n 0, 1) ∧ 22 + 1 = 23 := ⟨dcAll_e (i := 12) da_X6_enclose_0 rfl, rfl⟩
theorem q_X6_enclose_23 : decode M_X6_enclose.2.1 23 = .ok (.getfield 18, 3) ∧ 23 + 3 = 26 := ⟨dcAll_e (i := 13) da_X6_enclose_0 rfl, rfl⟩
theorem q_X6_enclose_26 : decode M_X6_enclose.2.1 26 = .ok (.aload_n 0, 1) ∧ 26 + 1 = 27 := ⟨dcAll_e (i := 14) da_X6_enclose_0 rfl, rfl⟩
theorem q_X6_enclose_27 : decode M_X6_enclose.2.1 27 = .ok (.getfield 11, 3) ∧ 27 + 3 = 30 := ⟨dcAll_e (i := 15) da_X6_enclose_0 rfl, rfl⟩
theorem q_X6_enclose_30 : decode M_X6_enclose.2.1 30 = .ok (.iload_n 1, 1) ∧ 30 + 1 = 31 := ⟨dcAll_e (i := 16) da_X6_enclose_0 rfl, rfl⟩
theorem q_X6_enclose_31 : decode M_X6_enclose.2.1 31 = .ok (.iload_n 2, 1) ∧ 31 + 1 = 32 := ⟨dcAll_e (i := 17) da_X6_enclose_0 rfl, rfl⟩
theorem q_X6_enclose_32 : decode M_X6_enclose.2.1 32 = .ok (.invokevirtual 74, 3) ∧ 32 + 3 = 35 := ⟨dcAll_e (i := 18) da_X6_enclose_0 rfl, rfl⟩
theorem g_X6_enclose_32 : en_C M_X6_enclose M_X2_enclosed 74 3 := ⟨⟨inT2 70 rfl rfl, in_X2, cd_X2_enclosed⟩, ⟨by decide, by decide, by decide +kernel⟩, by decide, by decide⟩
theorem q_X6_enclose_35 : decode M_X6_enclose.2.1 35 = .ok (.astore_n 3, 1) ∧ 35 + 1 = 36 := ⟨dcAll_e (i := 19) da_X6_enclose_0 rfl, rfl⟩
theorem q_X6_enclose_36 : decode M_X6_enclose.2.1 36 = .ok (.aload_n 3, 1) ∧ 36 + 1 = 37 := ⟨dcAll_e (i := 20) da_X6_enclose_0 rfl, rfl⟩
theorem q_X6_enclose_37 : decode M_X6_enclose.2.1 37 = .ok (.ifnull 10, 3) ∧ 37 + 3 = 40 ∧ ((37 : Nat) : Int) + 10 = ((47 : Nat) : Int) := ⟨dcAll_e (i := 21) da_X6_enclose_0 rfl, rfl, rfl⟩
theorem q_X6_enclose_40 : decode M_X6_enclose.2.1 40 = .ok (.aload_n 3, 1) ∧ 40 + 1 = 41 := ⟨dcAll_e (i := 22) da_X6_enclose_0 rfl, rfl⟩
theorem q_X6_enclose_41 : decode M_X6_enclose.2.1 41 = .ok (.getfield 106, 3) ∧ 41 + 3 = 44 := ⟨dcAll_e (i := 23) da_X6_enclose_0 rfl, rfl⟩
theorem f_RX6_106 : en_F RX6 106 5 6 := ⟨RX5, TX5, 11, rfl, by decide, rfl, inT1 225 rfl rfl, uw_X5⟩
theorem q_X6_enclose_44 : decode M_X6_enclose.2.1 44 = .ok (.ifCond .eq 6, 3) ∧ 44 + 3 = 47 ∧ ((44 : Nat) : Int) + 6 = ((50 : Nat) : Int) := ⟨dcAll_e (i := 24) da_X6_enclose_0 rfl, rfl, rfl⟩
theorem q_X6_enclose_47 : decode M_X6_enclose.2.1 47 = .ok (.bipush (-3), 2) ∧ 47 + 2 = 49 := ⟨dcAll_e (i := 25) da_X6_enclose_0 rfl, rfl⟩
theorem q_X6_enclose_49 : decode M_X6_enclose.2.1 49 = .ok (.ireturn, 1) ∧ 49 + 1 = 50 := ⟨dcAll_e (i := 26) da_X6_enclose_0 rfl, rfl⟩
theorem q_X6_enclose_50 : decode M_X6_enclose.2.1 50 = .ok (.aload_n 0, 1) ∧ 50 + 1 = 51 := ⟨dcAll_e (i := 27) da_X6_enclose_0 rfl, rfl⟩
theorem q_X6_enclose_51 : decode M_X6_enclose.2.1 51 = .ok (.getfield 35, 3) ∧ 51 + 3 = 54 := ⟨dcAll_e (i := 28) da_X6_enclose_0 rfl, rfl⟩
theorem f_RX6_35 : en_F RX6 35 6 7 := ⟨RX6, TX6, 15, rfl, by decide, rfl, inT1 154 rfl rfl, uw_X6⟩
theorem q_X6_enclose_54 : decode M_X6_enclose.2.1 54 = .ok (.aload_n 3, 1) ∧ 54 + 1 = 55 := ⟨dcAll_e (i := 29) da_X6_enclose_0 rfl, rfl⟩
theorem q_X6_enclose_55 : decode M_X6_enclose.2.1 55 = .ok (.getfield 110, 3) ∧ 55 + 3 = 58 := ⟨dcAll_e (i := 30) da_X6_enclose_0 rfl, rfl⟩
theorem f_RX6_110 : en_F RX6 110 5 7 := ⟨RX5, TX5, 11, rfl, by decide, rfl, inT1 228 rfl rfl, uw_X5⟩
theorem q_X6_enclose_58 : decode M_X6_enclose.2.1 58 = .ok (.invokevirtual 82, 3) ∧ 58 + 3 = 61 := ⟨dcAll_e (i := 31) da_X6_enclose_0 rfl, rfl⟩
theorem g_X6_enclose_58 : en_C M_X6_enclose M_X1_copy 82 1 := ⟨⟨inT3 80 rfl rfl, in_X1, cd_X1_copy⟩, ⟨by decide, by decide, by decide +kernel⟩, by decide, by decide⟩
theorem q_X6_enclose_61 : decode M_X6_enclose.2.1 61 = .ok (.aload_n 0, 1) ∧ 61 + 1 = 62 := ⟨dcAll_e (i := 32) da_X6_enclose_0 rfl, rfl⟩
theorem q_X6_enclose_62 : decode M_X6_enclose.2.1 62 = .ok (.getfield 38, 3) ∧ 62 + 3 = 65 := ⟨dcAll_e (i := 33) da_X6_enclose_0 rfl, rfl⟩
theorem f_RX6_38 : en_F RX6 38 6 8 := ⟨RX6, TX6, 15, rfl, by decide, rfl, inT1 155 rfl rfl, uw_X6⟩
theorem q_X6_enclose_65 : decode M_X6_enclose.2.1 65 = .ok (.aload_n 3, 1) ∧ 65 + 1 = 66 := ⟨dcAll_e (i := 34) da_X6_enclose_0 rfl, rfl⟩
theorem q_X6_enclose_66 : decode M_X6_enclose.2.1 66 = .ok (.getfield 113, 3) ∧ 66 + 3 = 69 := ⟨dcAll_e (i := 35) da_X6_enclose_0 rfl, rfl⟩
theorem f_RX6_113 : en_F RX6 113 5 8 := ⟨RX5, TX5, 11, rfl, by decide, rfl, inT1 231 rfl rfl, uw_X5⟩
theorem q_X6_enclose_69 : decode M_X6_enclose.2.1 69 = .ok (.invokevirtual 82, 3) ∧ 69 + 3 = 72 := ⟨dcAll_e (i := 36) da_X6_enclose_0 rfl, rfl⟩
theorem g_X6_enclose_69 : en_C M_X6_enclose M_X1_copy 82 1 := ⟨⟨inT3 80 rfl rfl, in_X1, cd_X1_copy⟩, ⟨by decide, by decide, by decide +kernel⟩, by decide, by decide⟩
theorem q_X6_enclose_72 : decode M_X6_enclose.2.1 72 = .ok (.iconst 1, 1) ∧ 72 + 1 = 73 := ⟨dcAll_e (i := 37) da_X6_enclose_0 rfl, rfl⟩
theorem q_X6_enclose_73 : decode M_X6_enclose.2.1 73 = .ok (.ireturn, 1) ∧ 73 + 1 = 74 := ⟨dcAll_e (i := 38) da_X6_enclose_0 rfl, rfl⟩
def dl_X6_bound_0 : List (Nat × Instr × Nat) := [(0, .iload_n 1, 1), (1, .ifCond .lt 13, 3), (4, .iload_n 1, 1), (5, .iconst 1, 1), (6, .if_icmp .gt 8, 3), (9, .iload_n 2, 1), (10, .iconst (-1), 1), (11, .if_icmp .ge 5, 3), (14, .iconst (-1), 1), (15, .ireturn, 1), (16, .iload_n 1, 1), (17, .ifCond .ne 10, 3), (20, .aload_n 0, 1), (21, .getfield 35, 3), (24, .goto 7, 3), (27, .aload_n 0, 1), (28, .getfield 38, 3), (31, .astore_n 3, 1), (32, .iload_n 2, 1), (33, .iconst (-1), 1), (34, .if_icmp .ne 10, 3), (37, .aload_n 3, 1), (38, .getfield 99, 3), (41, .goto 8, 3), (44, .aload_n 3, 1), (45, .iload_n 2, 1), (46, .invokevirtual 102, 3), (49, .ireturn, 1)]
theorem da_X6_bound_0 : dcAll M_X6_bound.2.1 dl_X6_bound_0 = true := by decide +kernel
theorem q_X6_bound_0 : decode M_X6_bound.2.1 0 = .ok (.iload_n 1, 1) ∧ 0 + 1 = 1 := ⟨dcAll_e (i := 0) da_X6_bound_0 rfl, rfl⟩
theorem q_X6_bound_1 : decode M_X6_bound.2.1 1 = .ok (.ifCond .lt 13, 3) ∧ 1 + 3 = 4 ∧ ((1 : Nat) : Int) + 13 = ((14 : Nat) : Int) := ⟨dcAll_e (i := 1) da_X6_bound_0 rfl, rfl, rfl⟩
theorem q_X6_bound_4 : decode M_X6_bound.2.1 4 = .ok (.iload_n 1, 1) ∧ 4 + 1 = 5 := ⟨dcAll_e (i := 2) da_X6_bound_0 rfl, rfl⟩
theorem q_X6_bound_5 : decode M_X6_bound.2.1 5 = .ok (.iconst 1, 1) ∧ 5 + 1 = 6 := ⟨dcAll_e (i := 3) da_X6_bound_0 rfl, rfl⟩
theorem q_X6_bound_6 : decode M_X6_bound.2.1 6 = .ok (.if_icmp .gt 8, 3) ∧ 6 + 3 = 9 ∧ ((6 : Nat) : Int) + 8 = ((14 : Nat) : Int) := ⟨dcAll_e (i := 4) da_X6_bound_0 rfl, rfl, rfl⟩
theorem q_X6_bound_9 : decode M_X6_bound.2.1 9 = .ok (.iload_n 2, 1) ∧ 9 + 1 = 10 := ⟨dcAll_e (i := 5) da_X6_bound_0 rfl, rfl⟩
theorem q_X6_bound_10 : decode M_X6_bound.2.1 10 = .ok (.iconst (-1), 1) ∧ 10 + 1 = 11 := ⟨dcAll_e (i := 6) da_X6_bound_0 rfl, rfl⟩
theorem q_X6_bound_11 : decode M_X6_bound.2.1 11 = .ok (.if_icmp .ge 5, 3) ∧ 11 + 3 = 14 ∧ ((11 : Nat) : Int) + 5 = ((16 : Nat) : Int) := ⟨dcAll_e (i := 7) da_X6_bound_0 rfl, rfl, rfl⟩
theorem q_X6_bound_14 : decode M_X6_bound.2.1 14 = .ok (.iconst (-1), 1) ∧ 14 + 1 = 15 := ⟨dcAll_e (i := 8) da_X6_bound_0 rfl, rfl⟩
theorem q_X6_bound_15 : decode M_X6_bound.2.1 15 = .ok (.ireturn, 1) ∧ 15 + 1 = 16 := ⟨dcAll_e (i := 9) da_X6_bound_0 rfl, rfl⟩
theorem q_X6_bound_16 : decode M_X6_bound.2.1 16 = .ok (.iload_n 1, 1) ∧ 16 + 1 = 17 := ⟨dcAll_e (i := 10) da_X6_bound_0 rfl, rfl⟩
theorem q_X6_bound_17 : decode M_X6_bound.2.1 17 = .ok (.ifCond .ne 10, 3) ∧ 17 + 3 = 20 ∧ ((17 : Nat) : Int) + 10 = ((27 : Nat) : Int) := ⟨dcAll_e (i := 11) da_X6_bound_0 rfl, rfl, rfl⟩
theorem q_X6_bound_20 : decode M_X6_bound.2.1 20 = .ok (.aload_n 0, 1) ∧ 20 + 1 = 21 := ⟨dcAll_e (i := 12) da_X6_bound_0 rfl, rfl⟩
theorem q_X6_bound_21 : decode M_X6_bound.2.1 21 = .ok (.getfield 35, 3) ∧ 21 + 3 = 24 := ⟨dcAll_e (i := 13) da_X6_bound_0 rfl, rfl⟩
theorem q_X6_bound_24 : decode M_X6_bound.2.1 24 = .ok (.goto 7, 3) ∧ 24 + 3 = 27 ∧ ((24 : Nat) : Int) + 7 = ((31 : Nat) : Int) := ⟨dcAll_e (i := 14) da_X6_bound_0 rfl, rfl, rfl⟩
theorem q_X6_bound_27 : decode M_X6_bound.2.1 27 = .ok (.aload_n 0, 1) ∧ 27 + 1 = 28 := ⟨dcAll_e (i := 15) da_X6_bound_0 rfl, rfl⟩
theorem q_X6_bound_28 : decode M_X6_bound.2.1 28 = .ok (.getfield 38, 3) ∧ 28 + 3 = 31 := ⟨dcAll_e (i := 16) da_X6_bound_0 rfl, rfl⟩
theorem q_X6_bound_31 : decode M_X6_bound.2.1 31 = .ok (.astore_n 3, 1) ∧ 31 + 1 = 32 := ⟨dcAll_e (i := 17) da_X6_bound_0 rfl, rfl⟩
theorem q_X6_bound_32 : decode M_X6_bound.2.1 32 = .ok (.iload_n 2, 1) ∧ 32 + 1 = 33 := ⟨dcAll_e (i := 18) da_X6_bound_0 rfl, rfl⟩
theorem q_X6_bound_33 : decode M_X6_bound.2.1 33 = .ok (.iconst (-1), 1) ∧ 33 + 1 = 34 := ⟨dcAll_e (i := 19) da_X6_bound_0 rfl, rfl⟩
theorem q_X6_bound_34 : decode M_X6_bound.2.1 34 = .ok (.if_icmp .ne 10, 3) ∧ 34 + 3 = 37 ∧ ((34 : Nat) : Int) + 10 = ((44 : Nat) : Int) := ⟨dcAll_e (i := 20) da_X6_bound_0 rfl, rfl, rfl⟩
theorem q_X6_bound_37 : decode M_X6_bound.2.1 37 = .ok (.aload_n 3, 1) ∧ 37 + 1 = 38 := ⟨dcAll_e (i := 21) da_X6_bound_0 rfl, rfl⟩
theorem q_X6_bound_38 : decode M_X6_bound.2.1 38 = .ok (.getfield 99, 3) ∧ 38 + 3 = 41 := ⟨dcAll_e (i := 22) da_X6_bound_0 rfl, rfl⟩
theorem q_X6_bound_41 : decode M_X6_bound.2.1 41 = .ok (.goto 8, 3) ∧ 41 + 3 = 44 ∧ ((41 : Nat) : Int) + 8 = ((49 : Nat) : Int) := ⟨dcAll_e (i := 23) da_X6_bound_0 rfl, rfl, rfl⟩
theorem q_X6_bound_44 : decode M_X6_bound.2.1 44 = .ok (.aload_n 3, 1) ∧ 44 + 1 = 45 := ⟨dcAll_e (i := 24) da_X6_bound_0 rfl, rfl⟩
theorem q_X6_bound_45 : decode M_X6_bound.2.1 45 = .ok (.iload_n 2, 1) ∧ 45 + 1 = 46 := ⟨dcAll_e (i := 25) da_X6_bound_0 rfl, rfl⟩
theorem q_X6_bound_46 : decode M_X6_bound.2.1 46 = .ok (.invokevirtual 102, 3) ∧ 46 + 3 = 49 := ⟨dcAll_e (i := 26) da_X6_bound_0 rfl, rfl⟩
theorem g_X6_bound_46 : en_C M_X6_bound M_X1_digitAt 102 1 := ⟨⟨inT3 89 rfl rfl, in_X1, cd_X1_digitAt⟩, ⟨by decide, by decide, by decide +kernel⟩, by decide, by decide⟩
theorem q_X6_bound_49 : decode M_X6_bound.2.1 49 = .ok (.ireturn, 1) ∧ 49 + 1 = 50 := ⟨dcAll_e (i := 27) da_X6_bound_0 rfl, rfl⟩
def dl_X6_order_0 : List (Nat × Instr × Nat) := [(0, .aload_n 0, 1), (1, .iload_n 1, 1), (2, .invokevirtual 63, 3), (5, .ifCond .eq 11, 3), (8, .aload_n 0, 1), (9, .iload_n 2, 1), (10, .invokevirtual 63, 3), (13, .ifCond .ne 5, 3), (16, .iconst (-1), 1), (17, .ireturn, 1), (18, .aload_n 0, 1), (19, .iconst 0, 1), (20, .putfield 71, 3), (23, .bipush 10, 2), (25, .istore_n 3, 1), (26, .iload_n 3, 1), (27, .sipush 480, 3), (30, .if_icmp .gt 62, 3), (33, .aload_n 0, 1), (34, .getfield 18, 3), (37, .aload_n 0, 1), (38, .getfield 11, 3), (41, .iload_n 1, 1), (42, .iload_n 3, 1), (43, .invokevirtual 74, 3), (46, .aload_n 0, 1), (47, .getfield 18, 3), (50, .aload_n 0, 1), (51, .getfield 11, 3), (54, .iload_n 2, 1), (55, .iload_n 3, 1), (56, .invokevirtual 74, 3), (59, .invokestatic 116, 3), (62, .istore 4, 2), (64, .iload 4, 2), (66, .ifCond .eq 19, 3), (69, .aload_n 0, 1), (70, .iload_n 3, 1), (71, .putfield 71, 3), (74, .iload 4, 2)]
theorem da_X6_order_0 : dcAll M_X6_order.2.1 dl_X6_order_0 = true := by decide +kernel
def dl_X6_order_1 : List (Nat × Instr × Nat) := [(76, .ifCond .le 7, 3), (79, .iconst 1, 1), (80, .goto 4, 3), (83, .iconst 0, 1), (84, .ireturn, 1), (85, .iload_n 3, 1), (86, .iconst 2, 1), (87, .imul, 1), (88, .istore_n 3, 1), (89, .goto (-63), 3), (92, .bipush (-3), 2), (94, .ireturn, 1)]
theorem da_X6_order_1 : dcAll M_X6_order.2.1 dl_X6_order_1 = true := by decide +kernel
theorem q_X6_order_0 : decode M_X6_order.2.1 0 = .ok (.aload_n 0, 1) ∧ 0 + 1 = 1 := ⟨dcAll_e (i := 0) da_X6_order_0 rfl, rfl⟩
theorem q_X6_order_1 : decode M_X6_order.2.1 1 = .ok (.iload_n 1, 1) ∧ 1 + 1 = 2 := ⟨dcAll_e (i := 1) da_X6_order_0 rfl, rfl⟩
theorem q_X6_order_2 : decode M_X6_order.2.1 2 = .ok (.invokevirtual 63, 3) ∧ 2 + 3 = 5 := ⟨dcAll_e (i := 2) da_X6_order_0 rfl, rfl⟩
theorem g_X6_order_2 : en_C M_X6_order M_X6_isValue 63 1 := ⟨⟨inT2 50 rfl rfl, in_X6, cd_X6_isValue⟩, ⟨by decide, by decide, by decide +kernel⟩, by decide, by decide⟩
theorem q_X6_order_5 : decode M_X6_order.2.1 5 = .ok (.ifCond .eq 11, 3) ∧ 5 + 3 = 8 ∧ ((5 : Nat) : Int) + 11 = ((16 : Nat) : Int) := ⟨dcAll_e (i := 3) da_X6_order_0 rfl, rfl, rfl⟩
theorem q_X6_order_8 : decode M_X6_order.2.1 8 = .ok (.aload_n 0, 1) ∧ 8 + 1 = 9 := ⟨dcAll_e (i := 4) da_X6_order_0 rfl, rfl⟩
theorem q_X6_order_9 : decode M_X6_order.2.1 9 = .ok (.iload_n 2, 1) ∧ 9 + 1 = 10 := ⟨dcAll_e (i := 5) da_X6_order_0 rfl, rfl⟩
theorem q_X6_order_10 : decode M_X6_order.2.1 10 = .ok (.invokevirtual 63, 3) ∧ 10 + 3 = 13 := ⟨dcAll_e (i := 6) da_X6_order_0 rfl, rfl⟩
theorem g_X6_order_10 : en_C M_X6_order M_X6_isValue 63 1 := ⟨⟨inT2 50 rfl rfl, in_X6, cd_X6_isValue⟩, ⟨by decide, by decide, by decide +kernel⟩, by decide, by decide⟩
theorem q_X6_order_13 : decode M_X6_order.2.1 13 = .ok (.ifCond .ne 5, 3) ∧ 13 + 3 = 16 ∧ ((13 : Nat) : Int) + 5 = ((18 : Nat) : Int) := ⟨dcAll_e (i := 7) da_X6_order_0 rfl, rfl, rfl⟩
theorem q_X6_order_16 : decode M_X6_order.2.1 16 = .ok (.iconst (-1), 1) ∧ 16 + 1 = 17 := ⟨dcAll_e (i := 8) da_X6_order_0 rfl, rfl⟩
theorem q_X6_order_17 : decode M_X6_order.2.1 17 = .ok (.ireturn, 1) ∧ 17 + 1 = 18 := ⟨dcAll_e (i := 9) da_X6_order_0 rfl, rfl⟩
theorem q_X6_order_18 : decode M_X6_order.2.1 18 = .ok (.aload_n 0, 1) ∧ 18 + 1 = 19 := ⟨dcAll_e (i := 10) da_X6_order_0 rfl, rfl⟩
theorem q_X6_order_19 : decode M_X6_order.2.1 19 = .ok (.iconst 0, 1) ∧ 19 + 1 = 20 := ⟨dcAll_e (i := 11) da_X6_order_0 rfl, rfl⟩
theorem q_X6_order_20 : decode M_X6_order.2.1 20 = .ok (.putfield 71, 3) ∧ 20 + 3 = 23 := ⟨dcAll_e (i := 12) da_X6_order_0 rfl, rfl⟩
theorem q_X6_order_23 : decode M_X6_order.2.1 23 = .ok (.bipush 10, 2) ∧ 23 + 2 = 25 := ⟨dcAll_e (i := 13) da_X6_order_0 rfl, rfl⟩
theorem q_X6_order_25 : decode M_X6_order.2.1 25 = .ok (.istore_n 3, 1) ∧ 25 + 1 = 26 := ⟨dcAll_e (i := 14) da_X6_order_0 rfl, rfl⟩
theorem q_X6_order_26 : decode M_X6_order.2.1 26 = .ok (.iload_n 3, 1) ∧ 26 + 1 = 27 := ⟨dcAll_e (i := 15) da_X6_order_0 rfl, rfl⟩
theorem q_X6_order_27 : decode M_X6_order.2.1 27 = .ok (.sipush 480, 3) ∧ 27 + 3 = 30 := ⟨dcAll_e (i := 16) da_X6_order_0 rfl, rfl⟩
theorem q_X6_order_30 : decode M_X6_order.2.1 30 = .ok (.if_icmp .gt 62, 3) ∧ 30 + 3 = 33 ∧ ((30 : Nat) : Int) + 62 = ((92 : Nat) : Int) := ⟨dcAll_e (i := 17) da_X6_order_0 rfl, rfl, rfl⟩
theorem q_X6_order_33 : decode M_X6_order.2.1 33 = .ok (.aload_n 0, 1) ∧ 33 + 1 = 34 := ⟨dcAll_e (i := 18) da_X6_order_0 rfl, rfl⟩
theorem q_X6_order_34 : decode M_X6_order.2.1 34 = .ok (.getfield 18, 3) ∧ 34 + 3 = 37 := ⟨dcAll_e (i := 19) da_X6_order_0 rfl, rfl⟩
theorem q_X6_order_37 : decode M_X6_order.2.1 37 = .ok (.aload_n 0, 1) ∧ 37 + 1 = 38 := ⟨dcAll_e (i := 20) da_X6_order_0 rfl, rfl⟩
theorem q_X6_order_38 : decode M_X6_order.2.1 38 = .ok (.getfield 11, 3) ∧ 38 + 3 = 41 := ⟨dcAll_e (i := 21) da_X6_order_0 rfl, rfl⟩
theorem q_X6_order_41 : decode M_X6_order.2.1 41 = .ok (.iload_n 1, 1) ∧ 41 + 1 = 42 := ⟨dcAll_e (i := 22) da_X6_order_0 rfl, rfl⟩
theorem q_X6_order_42 : decode M_X6_order.2.1 42 = .ok (.iload_n 3, 1) ∧ 42 + 1 = 43 := ⟨dcAll_e (i := 23) da_X6_order_0 rfl, rfl⟩
theorem q_X6_order_43 : decode M_X6_order.2.1 43 = .ok (.invokevirtual 74, 3) ∧ 43 + 3 = 46 := ⟨dcAll_e (i := 24) da_X6_order_0 rfl, rfl⟩
theorem g_X6_order_43 : en_C M_X6_order M_X2_enclosed 74 3 := ⟨⟨inT2 70 rfl rfl, in_X2, cd_X2_enclosed⟩, ⟨by decide, by decide, by decide +kernel⟩, by decide, by decide⟩
theorem q_X6_order_46 : decode M_X6_order.2.1 46 = .ok (.aload_n 0, 1) ∧ 46 + 1 = 47 := ⟨dcAll_e (i := 25) da_X6_order_0 rfl, rfl⟩
theorem q_X6_order_47 : decode M_X6_order.2.1 47 = .ok (.getfield 18, 3) ∧ 47 + 3 = 50 := ⟨dcAll_e (i := 26) da_X6_order_0 rfl, rfl⟩
theorem q_X6_order_50 : decode M_X6_order.2.1 50 = .ok (.aload_n 0, 1) ∧ 50 + 1 = 51 := ⟨dcAll_e (i := 27) da_X6_order_0 rfl, rfl⟩
theorem q_X6_order_51 : decode M_X6_order.2.1 51 = .ok (.getfield 11, 3) ∧ 51 + 3 = 54 := ⟨dcAll_e (i := 28) da_X6_order_0 rfl, rfl⟩
theorem q_X6_order_54 : decode M_X6_order.2.1 54 = .ok (.iload_n 2, 1) ∧ 54 + 1 = 55 := ⟨dcAll_e (i := 29) da_X6_order_0 rfl, rfl⟩
theorem q_X6_order_55 : decode M_X6_order.2.1 55 = .ok (.iload_n 3, 1) ∧ 55 + 1 = 56 := ⟨dcAll_e (i := 30) da_X6_order_0 rfl, rfl⟩
theorem q_X6_order_56 : decode M_X6_order.2.1 56 = .ok (.invokevirtual 74, 3) ∧ 56 + 3 = 59 := ⟨dcAll_e (i := 31) da_X6_order_0 rfl, rfl⟩
theorem g_X6_order_56 : en_C M_X6_order M_X2_enclosed 74 3 := ⟨⟨inT2 70 rfl rfl, in_X2, cd_X2_enclosed⟩, ⟨by decide, by decide, by decide +kernel⟩, by decide, by decide⟩
theorem q_X6_order_59 : decode M_X6_order.2.1 59 = .ok (.invokestatic 116, 3) ∧ 59 + 3 = 62 := ⟨dcAll_e (i := 32) da_X6_order_0 rfl, rfl⟩
theorem cd_X6_sideOf : Cond.code M_X6_sideOf.1 M_X6_sideOf.2.1 M_X6_sideOf.2.2.1 M_X6_sideOf.2.2.2.1 ∈ en_tbl := inT3 111 rfl rfl
theorem g_X6_order_59 : en_C M_X6_order M_X6_sideOf 116 2 := ⟨⟨inT3 109 rfl rfl, in_X6, cd_X6_sideOf⟩, ⟨by decide, by decide, by decide +kernel⟩, by decide, by decide⟩
theorem w_X6_sideOf : Cond.static M_X6_sideOf.1 ∈ en_tbl := inT3 110 rfl rfl
theorem q_X6_order_62 : decode M_X6_order.2.1 62 = .ok (.istore 4, 2) ∧ 62 + 2 = 64 := ⟨dcAll_e (i := 33) da_X6_order_0 rfl, rfl⟩
theorem q_X6_order_64 : decode M_X6_order.2.1 64 = .ok (.iload 4, 2) ∧ 64 + 2 = 66 := ⟨dcAll_e (i := 34) da_X6_order_0 rfl, rfl⟩
theorem q_X6_order_66 : decode M_X6_order.2.1 66 = .ok (.ifCond .eq 19, 3) ∧ 66 + 3 = 69 ∧ ((66 : Nat) : Int) + 19 = ((85 : Nat) : Int) := ⟨dcAll_e (i := 35) da_X6_order_0 rfl, rfl, rfl⟩
theorem q_X6_order_69 : decode M_X6_order.2.1 69 = .ok (.aload_n 0, 1) ∧ 69 + 1 = 70 := ⟨dcAll_e (i := 36) da_X6_order_0 rfl, rfl⟩
theorem q_X6_order_70 : decode M_X6_order.2.1 70 = .ok (.iload_n 3, 1) ∧ 70 + 1 = 71 := ⟨dcAll_e (i := 37) da_X6_order_0 rfl, rfl⟩
theorem q_X6_order_71 : decode M_X6_order.2.1 71 = .ok (.putfield 71, 3) ∧ 71 + 3 = 74 := ⟨dcAll_e (i := 38) da_X6_order_0 rfl, rfl⟩
theorem q_X6_order_74 : decode M_X6_order.2.1 74 = .ok (.iload 4, 2) ∧ 74 + 2 = 76 := ⟨dcAll_e (i := 39) da_X6_order_0 rfl, rfl⟩
theorem q_X6_order_76 : decode M_X6_order.2.1 76 = .ok (.ifCond .le 7, 3) ∧ 76 + 3 = 79 ∧ ((76 : Nat) : Int) + 7 = ((83 : Nat) : Int) := ⟨dcAll_e (i := 0) da_X6_order_1 rfl, rfl, rfl⟩
theorem q_X6_order_79 : decode M_X6_order.2.1 79 = .ok (.iconst 1, 1) ∧ 79 + 1 = 80 := ⟨dcAll_e (i := 1) da_X6_order_1 rfl, rfl⟩
theorem q_X6_order_80 : decode M_X6_order.2.1 80 = .ok (.goto 4, 3) ∧ 80 + 3 = 83 ∧ ((80 : Nat) : Int) + 4 = ((84 : Nat) : Int) := ⟨dcAll_e (i := 2) da_X6_order_1 rfl, rfl, rfl⟩
theorem q_X6_order_83 : decode M_X6_order.2.1 83 = .ok (.iconst 0, 1) ∧ 83 + 1 = 84 := ⟨dcAll_e (i := 3) da_X6_order_1 rfl, rfl⟩
theorem q_X6_order_84 : decode M_X6_order.2.1 84 = .ok (.ireturn, 1) ∧ 84 + 1 = 85 := ⟨dcAll_e (i := 4) da_X6_order_1 rfl, rfl⟩
theorem q_X6_order_85 : decode M_X6_order.2.1 85 = .ok (.iload_n 3, 1) ∧ 85 + 1 = 86 := ⟨dcAll_e (i := 5) da_X6_order_1 rfl, rfl⟩
theorem q_X6_order_86 : decode M_X6_order.2.1 86 = .ok (.iconst 2, 1) ∧ 86 + 1 = 87 := ⟨dcAll_e (i := 6) da_X6_order_1 rfl, rfl⟩
theorem q_X6_order_87 : decode M_X6_order.2.1 87 = .ok (.imul, 1) ∧ 87 + 1 = 88 := ⟨dcAll_e (i := 7) da_X6_order_1 rfl, rfl⟩
theorem q_X6_order_88 : decode M_X6_order.2.1 88 = .ok (.istore_n 3, 1) ∧ 88 + 1 = 89 := ⟨dcAll_e (i := 8) da_X6_order_1 rfl, rfl⟩
theorem q_X6_order_89 : decode M_X6_order.2.1 89 = .ok (.goto (-63), 3) ∧ 89 + 3 = 92 ∧ ((89 : Nat) : Int) + (-63) = ((26 : Nat) : Int) := ⟨dcAll_e (i := 9) da_X6_order_1 rfl, rfl, rfl⟩
theorem q_X6_order_92 : decode M_X6_order.2.1 92 = .ok (.bipush (-3), 2) ∧ 92 + 2 = 94 := ⟨dcAll_e (i := 10) da_X6_order_1 rfl, rfl⟩
theorem q_X6_order_94 : decode M_X6_order.2.1 94 = .ok (.ireturn, 1) ∧ 94 + 1 = 95 := ⟨dcAll_e (i := 11) da_X6_order_1 rfl, rfl⟩
def dl_X6_quotients_0 : List (Nat × Instr × Nat) := [(0, .aload_n 0, 1), (1, .iload_n 1, 1), (2, .invokevirtual 63, 3), (5, .ifCond .eq 14, 3), (8, .iload_n 2, 1), (9, .iconst 1, 1), (10, .if_icmp .lt 9, 3), (13, .iload_n 2, 1), (14, .bipush 40, 2), (16, .if_icmp .le 5, 3), (19, .iconst (-1), 1), (20, .ireturn, 1), (21, .aload_n 0, 1), (22, .iconst 0, 1), (23, .putfield 71, 3), (26, .iconst 2, 1), (27, .iload_n 2, 1), (28, .imul, 1), (29, .bipush 10, 2), (31, .iadd, 1), (32, .istore_n 3, 1), (33, .iload_n 3, 1), (34, .sipush 480, 3), (37, .if_icmp .gt 58, 3), (40, .aload_n 0, 1), (41, .aload_n 0, 1), (42, .getfield 18, 3), (45, .aload_n 0, 1), (46, .getfield 11, 3), (49, .iload_n 1, 1), (50, .iload_n 3, 1), (51, .invokevirtual 74, 3), (54, .iload_n 2, 1), (55, .iload_n 3, 1), (56, .invokevirtual 120, 3), (59, .ifCond .eq 29, 3), (62, .aload_n 0, 1), (63, .getfield 55, 3), (66, .iconst 0, 1), (67, .aload_n 0, 1)]
theorem da_X6_quotients_0 : dcAll M_X6_quotients.2.1 dl_X6_quotients_0 = true := by decide +kernel
def dl_X6_quotients_1 : List (Nat × Instr × Nat) := [(68, .getfield 51, 3), (71, .iconst 0, 1), (72, .iload_n 2, 1), (73, .invokestatic 124, 3), (76, .aload_n 0, 1), (77, .iload_n 2, 1), (78, .putfield 130, 3), (81, .aload_n 0, 1), (82, .iload_n 3, 1), (83, .putfield 71, 3), (86, .iconst 1, 1), (87, .ireturn, 1), (88, .iload_n 3, 1), (89, .iconst 2, 1), (90, .imul, 1), (91, .istore_n 3, 1), (92, .goto (-59), 3), (95, .bipush (-3), 2), (97, .ireturn, 1)]
theorem da_X6_quotients_1 : dcAll M_X6_quotients.2.1 dl_X6_quotients_1 = true := by decide +kernel
theorem q_X6_quotients_0 : decode M_X6_quotients.2.1 0 = .ok (.aload_n 0, 1) ∧ 0 + 1 = 1 := ⟨dcAll_e (i := 0) da_X6_quotients_0 rfl, rfl⟩
theorem q_X6_quotients_1 : decode M_X6_quotients.2.1 1 = .ok (.iload_n 1, 1) ∧ 1 + 1 = 2 := ⟨dcAll_e (i := 1) da_X6_quotients_0 rfl, rfl⟩
theorem q_X6_quotients_2 : decode M_X6_quotients.2.1 2 = .ok (.invokevirtual 63, 3) ∧ 2 + 3 = 5 := ⟨dcAll_e (i := 2) da_X6_quotients_0 rfl, rfl⟩
theorem g_X6_quotients_2 : en_C M_X6_quotients M_X6_isValue 63 1 := ⟨⟨inT2 50 rfl rfl, in_X6, cd_X6_isValue⟩, ⟨by decide, by decide, by decide +kernel⟩, by decide, by decide⟩
theorem q_X6_quotients_5 : decode M_X6_quotients.2.1 5 = .ok (.ifCond .eq 14, 3) ∧ 5 + 3 = 8 ∧ ((5 : Nat) : Int) + 14 = ((19 : Nat) : Int) := ⟨dcAll_e (i := 3) da_X6_quotients_0 rfl, rfl, rfl⟩
theorem q_X6_quotients_8 : decode M_X6_quotients.2.1 8 = .ok (.iload_n 2, 1) ∧ 8 + 1 = 9 := ⟨dcAll_e (i := 4) da_X6_quotients_0 rfl, rfl⟩
theorem q_X6_quotients_9 : decode M_X6_quotients.2.1 9 = .ok (.iconst 1, 1) ∧ 9 + 1 = 10 := ⟨dcAll_e (i := 5) da_X6_quotients_0 rfl, rfl⟩
theorem q_X6_quotients_10 : decode M_X6_quotients.2.1 10 = .ok (.if_icmp .lt 9, 3) ∧ 10 + 3 = 13 ∧ ((10 : Nat) : Int) + 9 = ((19 : Nat) : Int) := ⟨dcAll_e (i := 6) da_X6_quotients_0 rfl, rfl, rfl⟩
theorem q_X6_quotients_13 : decode M_X6_quotients.2.1 13 = .ok (.iload_n 2, 1) ∧ 13 + 1 = 14 := ⟨dcAll_e (i := 7) da_X6_quotients_0 rfl, rfl⟩
theorem q_X6_quotients_14 : decode M_X6_quotients.2.1 14 = .ok (.bipush 40, 2) ∧ 14 + 2 = 16 := ⟨dcAll_e (i := 8) da_X6_quotients_0 rfl, rfl⟩
theorem q_X6_quotients_16 : decode M_X6_quotients.2.1 16 = .ok (.if_icmp .le 5, 3) ∧ 16 + 3 = 19 ∧ ((16 : Nat) : Int) + 5 = ((21 : Nat) : Int) := ⟨dcAll_e (i := 9) da_X6_quotients_0 rfl, rfl, rfl⟩
theorem q_X6_quotients_19 : decode M_X6_quotients.2.1 19 = .ok (.iconst (-1), 1) ∧ 19 + 1 = 20 := ⟨dcAll_e (i := 10) da_X6_quotients_0 rfl, rfl⟩
theorem q_X6_quotients_20 : decode M_X6_quotients.2.1 20 = .ok (.ireturn, 1) ∧ 20 + 1 = 21 := ⟨dcAll_e (i := 11) da_X6_quotients_0 rfl, rfl⟩
theorem q_X6_quotients_21 : decode M_X6_quotients.2.1 21 = .ok (.aload_n 0, 1) ∧ 21 + 1 = 22 := ⟨dcAll_e (i := 12) da_X6_quotients_0 rfl, rfl⟩
theorem q_X6_quotients_22 : decode M_X6_quotients.2.1 22 = .ok (.iconst 0, 1) ∧ 22 + 1 = 23 := ⟨dcAll_e (i := 13) da_X6_quotients_0 rfl, rfl⟩
theorem q_X6_quotients_23 : decode M_X6_quotients.2.1 23 = .ok (.putfield 71, 3) ∧ 23 + 3 = 26 := ⟨dcAll_e (i := 14) da_X6_quotients_0 rfl, rfl⟩
theorem q_X6_quotients_26 : decode M_X6_quotients.2.1 26 = .ok (.iconst 2, 1) ∧ 26 + 1 = 27 := ⟨dcAll_e (i := 15) da_X6_quotients_0 rfl, rfl⟩
theorem q_X6_quotients_27 : decode M_X6_quotients.2.1 27 = .ok (.iload_n 2, 1) ∧ 27 + 1 = 28 := ⟨dcAll_e (i := 16) da_X6_quotients_0 rfl, rfl⟩
theorem q_X6_quotients_28 : decode M_X6_quotients.2.1 28 = .ok (.imul, 1) ∧ 28 + 1 = 29 := ⟨dcAll_e (i := 17) da_X6_quotients_0 rfl, rfl⟩
theorem q_X6_quotients_29 : decode M_X6_quotients.2.1 29 = .ok (.bipush 10, 2) ∧ 29 + 2 = 31 := ⟨dcAll_e (i := 18) da_X6_quotients_0 rfl, rfl⟩
theorem q_X6_quotients_31 : decode M_X6_quotients.2.1 31 = .ok (.iadd, 1) ∧ 31 + 1 = 32 := ⟨dcAll_e (i := 19) da_X6_quotients_0 rfl, rfl⟩
theorem q_X6_quotients_32 : decode M_X6_quotients.2.1 32 = .ok (.istore_n 3, 1) ∧ 32 + 1 = 33 := ⟨dcAll_e (i := 20) da_X6_quotients_0 rfl, rfl⟩
theorem q_X6_quotients_33 : decode M_X6_quotients.2.1 33 = .ok (.iload_n 3, 1) ∧ 33 + 1 = 34 := ⟨dcAll_e (i := 21) da_X6_quotients_0 rfl, rfl⟩
theorem q_X6_quotients_34 : decode M_X6_quotients.2.1 34 = .ok (.sipush 480, 3) ∧ 34 + 3 = 37 := ⟨dcAll_e (i := 22) da_X6_quotients_0 rfl, rfl⟩
theorem q_X6_quotients_37 : decode M_X6_quotients.2.1 37 = .ok (.if_icmp .gt 58, 3) ∧ 37 + 3 = 40 ∧ ((37 : Nat) : Int) + 58 = ((95 : Nat) : Int) := ⟨dcAll_e (i := 23) da_X6_quotients_0 rfl, rfl, rfl⟩
theorem q_X6_quotients_40 : decode M_X6_quotients.2.1 40 = .ok (.aload_n 0, 1) ∧ 40 + 1 = 41 := ⟨dcAll_e (i := 24) da_X6_quotients_0 rfl, rfl⟩
theorem q_X6_quotients_41 : decode M_X6_quotients.2.1 41 = .ok (.aload_n 0, 1) ∧ 41 + 1 = 42 := ⟨dcAll_e (i := 25) da_X6_quotients_0 rfl, rfl⟩
theorem q_X6_quotients_42 : decode M_X6_quotients.2.1 42 = .ok (.getfield 18, 3) ∧ 42 + 3 = 45 := ⟨dcAll_e (i := 26) da_X6_quotients_0 rfl, rfl⟩
theorem q_X6_quotients_45 : decode M_X6_quotients.2.1 45 = .ok (.aload_n 0, 1) ∧ 45 + 1 = 46 := ⟨dcAll_e (i := 27) da_X6_quotients_0 rfl, rfl⟩
theorem q_X6_quotients_46 : decode M_X6_quotients.2.1 46 = .ok (.getfield 11, 3) ∧ 46 + 3 = 49 := ⟨dcAll_e (i := 28) da_X6_quotients_0 rfl, rfl⟩
theorem q_X6_quotients_49 : decode M_X6_quotients.2.1 49 = .ok (.iload_n 1, 1) ∧ 49 + 1 = 50 := ⟨dcAll_e (i := 29) da_X6_quotients_0 rfl, rfl⟩
theorem q_X6_quotients_50 : decode M_X6_quotients.2.1 50 = .ok (.iload_n 3, 1) ∧ 50 + 1 = 51 := ⟨dcAll_e (i := 30) da_X6_quotients_0 rfl, rfl⟩
theorem q_X6_quotients_51 : decode M_X6_quotients.2.1 51 = .ok (.invokevirtual 74, 3) ∧ 51 + 3 = 54 := ⟨dcAll_e (i := 31) da_X6_quotients_0 rfl, rfl⟩
theorem g_X6_quotients_51 : en_C M_X6_quotients M_X2_enclosed 74 3 := ⟨⟨inT2 70 rfl rfl, in_X2, cd_X2_enclosed⟩, ⟨by decide, by decide, by decide +kernel⟩, by decide, by decide⟩
theorem q_X6_quotients_54 : decode M_X6_quotients.2.1 54 = .ok (.iload_n 2, 1) ∧ 54 + 1 = 55 := ⟨dcAll_e (i := 32) da_X6_quotients_0 rfl, rfl⟩
theorem q_X6_quotients_55 : decode M_X6_quotients.2.1 55 = .ok (.iload_n 3, 1) ∧ 55 + 1 = 56 := ⟨dcAll_e (i := 33) da_X6_quotients_0 rfl, rfl⟩
theorem q_X6_quotients_56 : decode M_X6_quotients.2.1 56 = .ok (.invokevirtual 120, 3) ∧ 56 + 3 = 59 := ⟨dcAll_e (i := 34) da_X6_quotients_0 rfl, rfl⟩
theorem cd_X6_quotientsAreTold : Cond.code M_X6_quotientsAreTold.1 M_X6_quotientsAreTold.2.1 M_X6_quotientsAreTold.2.2.1 M_X6_quotientsAreTold.2.2.2.1 ∈ en_tbl := inT3 119 rfl rfl
theorem g_X6_quotients_56 : en_C M_X6_quotients M_X6_quotientsAreTold 120 3 := ⟨⟨inT3 116 rfl rfl, in_X6, cd_X6_quotientsAreTold⟩, ⟨by decide, by decide, by decide +kernel⟩, by decide, by decide⟩
theorem w_X6_quotientsAreTold : Cond.instanceMethod M_X6_quotientsAreTold.1 ∈ en_tbl ∧ Cond.selects M_X6_quotientsAreTold.1.cls M_X6_quotientsAreTold.1 M_X6_quotientsAreTold.1 ∈ en_tbl := ⟨inT3 118 rfl rfl, by decide +kernel⟩
theorem q_X6_quotients_59 : decode M_X6_quotients.2.1 59 = .ok (.ifCond .eq 29, 3) ∧ 59 + 3 = 62 ∧ ((59 : Nat) : Int) + 29 = ((88 : Nat) : Int) := ⟨dcAll_e (i := 35) da_X6_quotients_0 rfl, rfl, rfl⟩
theorem q_X6_quotients_62 : decode M_X6_quotients.2.1 62 = .ok (.aload_n 0, 1) ∧ 62 + 1 = 63 := ⟨dcAll_e (i := 36) da_X6_quotients_0 rfl, rfl⟩
theorem q_X6_quotients_63 : decode M_X6_quotients.2.1 63 = .ok (.getfield 55, 3) ∧ 63 + 3 = 66 := ⟨dcAll_e (i := 37) da_X6_quotients_0 rfl, rfl⟩
theorem f_RX6_55 : en_F RX6 55 6 12 := ⟨RX6, TX6, 15, rfl, by decide, rfl, inT1 159 rfl rfl, uw_X6⟩
theorem q_X6_quotients_66 : decode M_X6_quotients.2.1 66 = .ok (.iconst 0, 1) ∧ 66 + 1 = 67 := ⟨dcAll_e (i := 38) da_X6_quotients_0 rfl, rfl⟩
theorem q_X6_quotients_67 : decode M_X6_quotients.2.1 67 = .ok (.aload_n 0, 1) ∧ 67 + 1 = 68 := ⟨dcAll_e (i := 39) da_X6_quotients_0 rfl, rfl⟩
theorem q_X6_quotients_68 : decode M_X6_quotients.2.1 68 = .ok (.getfield 51, 3) ∧ 68 + 3 = 71 := ⟨dcAll_e (i := 0) da_X6_quotients_1 rfl, rfl⟩
theorem f_RX6_51 : en_F RX6 51 6 11 := ⟨RX6, TX6, 15, rfl, by decide, rfl, inT1 158 rfl rfl, uw_X6⟩
theorem q_X6_quotients_71 : decode M_X6_quotients.2.1 71 = .ok (.iconst 0, 1) ∧ 71 + 1 = 72 := ⟨dcAll_e (i := 1) da_X6_quotients_1 rfl, rfl⟩
theorem q_X6_quotients_72 : decode M_X6_quotients.2.1 72 = .ok (.iload_n 2, 1) ∧ 72 + 1 = 73 := ⟨dcAll_e (i := 2) da_X6_quotients_1 rfl, rfl⟩
theorem q_X6_quotients_73 : decode M_X6_quotients.2.1 73 = .ok (.invokestatic 124, 3) ∧ 73 + 3 = 76 := ⟨dcAll_e (i := 3) da_X6_quotients_1 rfl, rfl⟩
theorem a_RX6_124 : Cond.methodLink RX6 124 arraycopyName ∈ en_tbl := by decide +kernel
theorem q_X6_quotients_76 : decode M_X6_quotients.2.1 76 = .ok (.aload_n 0, 1) ∧ 76 + 1 = 77 := ⟨dcAll_e (i := 4) da_X6_quotients_1 rfl, rfl⟩
theorem q_X6_quotients_77 : decode M_X6_quotients.2.1 77 = .ok (.iload_n 2, 1) ∧ 77 + 1 = 78 := ⟨dcAll_e (i := 5) da_X6_quotients_1 rfl, rfl⟩
theorem q_X6_quotients_78 : decode M_X6_quotients.2.1 78 = .ok (.putfield 130, 3) ∧ 78 + 3 = 81 := ⟨dcAll_e (i := 6) da_X6_quotients_1 rfl, rfl⟩
theorem p_RX6_130 : en_Fp RX6 130 6 13 false .int := ⟨RX6, TX6, 15, tyX6, rfl, by decide, rfl, inT1 160 rfl rfl, uw_X6, tyX6_ok, nmX6, rfl, by decide +kernel⟩
theorem q_X6_quotients_81 : decode M_X6_quotients.2.1 81 = .ok (.aload_n 0, 1) ∧ 81 + 1 = 82 := ⟨dcAll_e (i := 7) da_X6_quotients_1 rfl, rfl⟩
theorem q_X6_quotients_82 : decode M_X6_quotients.2.1 82 = .ok (.iload_n 3, 1) ∧ 82 + 1 = 83 := ⟨dcAll_e (i := 8) da_X6_quotients_1 rfl, rfl⟩
theorem q_X6_quotients_83 : decode M_X6_quotients.2.1 83 = .ok (.putfield 71, 3) ∧ 83 + 3 = 86 := ⟨dcAll_e (i := 9) da_X6_quotients_1 rfl, rfl⟩
theorem q_X6_quotients_86 : decode M_X6_quotients.2.1 86 = .ok (.iconst 1, 1) ∧ 86 + 1 = 87 := ⟨dcAll_e (i := 10) da_X6_quotients_1 rfl, rfl⟩
theorem q_X6_quotients_87 : decode M_X6_quotients.2.1 87 = .ok (.ireturn, 1) ∧ 87 + 1 = 88 := ⟨dcAll_e (i := 11) da_X6_quotients_1 rfl, rfl⟩
theorem q_X6_quotients_88 : decode M_X6_quotients.2.1 88 = .ok (.iload_n 3, 1) ∧ 88 + 1 = 89 := ⟨dcAll_e (i := 12) da_X6_quotients_1 rfl, rfl⟩
theorem q_X6_quotients_89 : decode M_X6_quotients.2.1 89 = .ok (.iconst 2, 1) ∧ 89 + 1 = 90 := ⟨dcAll_e (i := 13) da_X6_quotients_1 rfl, rfl⟩
theorem q_X6_quotients_90 : decode M_X6_quotients.2.1 90 = .ok (.imul, 1) ∧ 90 + 1 = 91 := ⟨dcAll_e (i := 14) da_X6_quotients_1 rfl, rfl⟩
theorem q_X6_quotients_91 : decode M_X6_quotients.2.1 91 = .ok (.istore_n 3, 1) ∧ 91 + 1 = 92 := ⟨dcAll_e (i := 15) da_X6_quotients_1 rfl, rfl⟩
theorem q_X6_quotients_92 : decode M_X6_quotients.2.1 92 = .ok (.goto (-59), 3) ∧ 92 + 3 = 95 ∧ ((92 : Nat) : Int) + (-59) = ((33 : Nat) : Int) := ⟨dcAll_e (i := 16) da_X6_quotients_1 rfl, rfl, rfl⟩
theorem q_X6_quotients_95 : decode M_X6_quotients.2.1 95 = .ok (.bipush (-3), 2) ∧ 95 + 2 = 97 := ⟨dcAll_e (i := 17) da_X6_quotients_1 rfl, rfl⟩
theorem q_X6_quotients_97 : decode M_X6_quotients.2.1 97 = .ok (.ireturn, 1) ∧ 97 + 1 = 98 := ⟨dcAll_e (i := 18) da_X6_quotients_1 rfl, rfl⟩
def dl_X6_quotient_0 : List (Nat × Instr × Nat) := [(0, .iload_n 1, 1), (1, .ifCond .lt 11, 3), (4, .iload_n 1, 1), (5, .aload_n 0, 1), (6, .getfield 130, 3), (9, .if_icmp .lt 7, 3), (12, .lconst 0, 1), (13, .goto 9, 3), (16, .aload_n 0, 1), (17, .getfield 51, 3), (20, .iload_n 1, 1), (21, .laload, 1), (22, .lreturn, 1)]
theorem da_X6_quotient_0 : dcAll M_X6_quotient.2.1 dl_X6_quotient_0 = true := by decide +kernel
theorem q_X6_quotient_0 : decode M_X6_quotient.2.1 0 = .ok (.iload_n 1, 1) ∧ 0 + 1 = 1 := ⟨dcAll_e (i := 0) da_X6_quotient_0 rfl, rfl⟩
theorem q_X6_quotient_1 : decode M_X6_quotient.2.1 1 = .ok (.ifCond .lt 11, 3) ∧ 1 + 3 = 4 ∧ ((1 : Nat) : Int) + 11 = ((12 : Nat) : Int) := ⟨dcAll_e (i := 1) da_X6_quotient_0 rfl, rfl, rfl⟩
theorem q_X6_quotient_4 : decode M_X6_quotient.2.1 4 = .ok (.iload_n 1, 1) ∧ 4 + 1 = 5 := ⟨dcAll_e (i := 2) da_X6_quotient_0 rfl, rfl⟩
theorem q_X6_quotient_5 : decode M_X6_quotient.2.1 5 = .ok (.aload_n 0, 1) ∧ 5 + 1 = 6 := ⟨dcAll_e (i := 3) da_X6_quotient_0 rfl, rfl⟩
theorem q_X6_quotient_6 : decode M_X6_quotient.2.1 6 = .ok (.getfield 130, 3) ∧ 6 + 3 = 9 := ⟨dcAll_e (i := 4) da_X6_quotient_0 rfl, rfl⟩
theorem f_RX6_130 : en_F RX6 130 6 13 := ⟨RX6, TX6, 15, rfl, by decide, rfl, inT1 160 rfl rfl, uw_X6⟩
theorem q_X6_quotient_9 : decode M_X6_quotient.2.1 9 = .ok (.if_icmp .lt 7, 3) ∧ 9 + 3 = 12 ∧ ((9 : Nat) : Int) + 7 = ((16 : Nat) : Int) := ⟨dcAll_e (i := 5) da_X6_quotient_0 rfl, rfl, rfl⟩
theorem q_X6_quotient_12 : decode M_X6_quotient.2.1 12 = .ok (.lconst 0, 1) ∧ 12 + 1 = 13 := ⟨dcAll_e (i := 6) da_X6_quotient_0 rfl, rfl⟩
theorem q_X6_quotient_13 : decode M_X6_quotient.2.1 13 = .ok (.goto 9, 3) ∧ 13 + 3 = 16 ∧ ((13 : Nat) : Int) + 9 = ((22 : Nat) : Int) := ⟨dcAll_e (i := 7) da_X6_quotient_0 rfl, rfl, rfl⟩
theorem q_X6_quotient_16 : decode M_X6_quotient.2.1 16 = .ok (.aload_n 0, 1) ∧ 16 + 1 = 17 := ⟨dcAll_e (i := 8) da_X6_quotient_0 rfl, rfl⟩
theorem q_X6_quotient_17 : decode M_X6_quotient.2.1 17 = .ok (.getfield 51, 3) ∧ 17 + 3 = 20 := ⟨dcAll_e (i := 9) da_X6_quotient_0 rfl, rfl⟩
theorem q_X6_quotient_20 : decode M_X6_quotient.2.1 20 = .ok (.iload_n 1, 1) ∧ 20 + 1 = 21 := ⟨dcAll_e (i := 10) da_X6_quotient_0 rfl, rfl⟩
theorem q_X6_quotient_21 : decode M_X6_quotient.2.1 21 = .ok (.laload, 1) ∧ 21 + 1 = 22 := ⟨dcAll_e (i := 11) da_X6_quotient_0 rfl, rfl⟩
theorem q_X6_quotient_22 : decode M_X6_quotient.2.1 22 = .ok (.lreturn, 1) ∧ 22 + 1 = 23 := ⟨dcAll_e (i := 12) da_X6_quotient_0 rfl, rfl⟩
def dl_X6_many_0 : List (Nat × Instr × Nat) := [(0, .aload_n 0, 1), (1, .getfield 130, 3), (4, .ireturn, 1)]
theorem da_X6_many_0 : dcAll M_X6_many.2.1 dl_X6_many_0 = true := by decide +kernel
theorem q_X6_many_0 : decode M_X6_many.2.1 0 = .ok (.aload_n 0, 1) ∧ 0 + 1 = 1 := ⟨dcAll_e (i := 0) da_X6_many_0 rfl, rfl⟩
theorem q_X6_many_1 : decode M_X6_many.2.1 1 = .ok (.getfield 130, 3) ∧ 1 + 3 = 4 := ⟨dcAll_e (i := 1) da_X6_many_0 rfl, rfl⟩
theorem q_X6_many_4 : decode M_X6_many.2.1 4 = .ok (.ireturn, 1) ∧ 4 + 1 = 5 := ⟨dcAll_e (i := 2) da_X6_many_0 rfl, rfl⟩
def dl_X6_precision_0 : List (Nat × Instr × Nat) := [(0, .aload_n 0, 1), (1, .getfield 71, 3), (4, .ireturn, 1)]
theorem da_X6_precision_0 : dcAll M_X6_precision.2.1 dl_X6_precision_0 = true := by decide +kernel
theorem q_X6_precision_0 : decode M_X6_precision.2.1 0 = .ok (.aload_n 0, 1) ∧ 0 + 1 = 1 := ⟨dcAll_e (i := 0) da_X6_precision_0 rfl, rfl⟩
theorem q_X6_precision_1 : decode M_X6_precision.2.1 1 = .ok (.getfield 71, 3) ∧ 1 + 3 = 4 := ⟨dcAll_e (i := 1) da_X6_precision_0 rfl, rfl⟩
theorem f_RX6_71 : en_F RX6 71 6 14 := ⟨RX6, TX6, 15, rfl, by decide, rfl, inT1 161 rfl rfl, uw_X6⟩
theorem q_X6_precision_4 : decode M_X6_precision.2.1 4 = .ok (.ireturn, 1) ∧ 4 + 1 = 5 := ⟨dcAll_e (i := 2) da_X6_precision_0 rfl, rfl⟩
def dl_X6_isValue_0 : List (Nat × Instr × Nat) := [(0, .iload_n 1, 1), (1, .ifCond .lt 15, 3), (4, .iload_n 1, 1), (5, .aload_n 0, 1), (6, .getfield 67, 3), (9, .if_icmp .ge 7, 3), (12, .iconst 1, 1), (13, .goto 4, 3), (16, .iconst 0, 1), (17, .ireturn, 1)]
theorem da_X6_isValue_0 : dcAll M_X6_isValue.2.1 dl_X6_isValue_0 = true := by decide +kernel
theorem q_X6_isValue_0 : decode M_X6_isValue.2.1 0 = .ok (.iload_n 1, 1) ∧ 0 + 1 = 1 := ⟨dcAll_e (i := 0) da_X6_isValue_0 rfl, rfl⟩
theorem q_X6_isValue_1 : decode M_X6_isValue.2.1 1 = .ok (.ifCond .lt 15, 3) ∧ 1 + 3 = 4 ∧ ((1 : Nat) : Int) + 15 = ((16 : Nat) : Int) := ⟨dcAll_e (i := 1) da_X6_isValue_0 rfl, rfl, rfl⟩
theorem q_X6_isValue_4 : decode M_X6_isValue.2.1 4 = .ok (.iload_n 1, 1) ∧ 4 + 1 = 5 := ⟨dcAll_e (i := 2) da_X6_isValue_0 rfl, rfl⟩
theorem q_X6_isValue_5 : decode M_X6_isValue.2.1 5 = .ok (.aload_n 0, 1) ∧ 5 + 1 = 6 := ⟨dcAll_e (i := 3) da_X6_isValue_0 rfl, rfl⟩
theorem q_X6_isValue_6 : decode M_X6_isValue.2.1 6 = .ok (.getfield 67, 3) ∧ 6 + 3 = 9 := ⟨dcAll_e (i := 4) da_X6_isValue_0 rfl, rfl⟩
theorem q_X6_isValue_9 : decode M_X6_isValue.2.1 9 = .ok (.if_icmp .ge 7, 3) ∧ 9 + 3 = 12 ∧ ((9 : Nat) : Int) + 7 = ((16 : Nat) : Int) := ⟨dcAll_e (i := 5) da_X6_isValue_0 rfl, rfl, rfl⟩
theorem q_X6_isValue_12 : decode M_X6_isValue.2.1 12 = .ok (.iconst 1, 1) ∧ 12 + 1 = 13 := ⟨dcAll_e (i := 6) da_X6_isValue_0 rfl, rfl⟩
theorem q_X6_isValue_13 : decode M_X6_isValue.2.1 13 = .ok (.goto 4, 3) ∧ 13 + 3 = 16 ∧ ((13 : Nat) : Int) + 4 = ((17 : Nat) : Int) := ⟨dcAll_e (i := 7) da_X6_isValue_0 rfl, rfl, rfl⟩
theorem q_X6_isValue_16 : decode M_X6_isValue.2.1 16 = .ok (.iconst 0, 1) ∧ 16 + 1 = 17 := ⟨dcAll_e (i := 8) da_X6_isValue_0 rfl, rfl⟩
theorem q_X6_isValue_17 : decode M_X6_isValue.2.1 17 = .ok (.ireturn, 1) ∧ 17 + 1 = 18 := ⟨dcAll_e (i := 9) da_X6_isValue_0 rfl, rfl⟩
def dl_X6_make_0 : List (Nat × Instr × Nat) := [(0, .aload_n 0, 1), (1, .getfield 67, 3), (4, .bipush 60, 2), (6, .if_icmp .lt 6, 3), (9, .bipush (-2), 2), (11, .ireturn, 1), (12, .aload_n 0, 1), (13, .getfield 11, 3), (16, .aload_n 0, 1), (17, .getfield 67, 3), (20, .aaload, 1), (21, .astore 8, 2), (23, .aload 8, 2), (25, .ifnonnull 23, 3), (28, .new 9, 3), (31, .dup, 1), (32, .invokespecial 133, 3), (35, .astore 8, 2), (37, .aload_n 0, 1), (38, .getfield 11, 3), (41, .aload_n 0, 1), (42, .getfield 67, 3), (45, .aload 8, 2), (47, .aastore, 1), (48, .aload 8, 2), (50, .iload_n 1, 1), (51, .lload_n 2, 1), (52, .lload 4, 2), (54, .invokevirtual 134, 3), (57, .aload 8, 2), (59, .iload 6, 2), (61, .iload 7, 2), (63, .invokevirtual 138, 3), (66, .aload_n 0, 1), (67, .dup, 1), (68, .getfield 67, 3), (71, .iconst 1, 1), (72, .iadd, 1), (73, .putfield 67, 3), (76, .aload_n 0, 1)]
theorem da_X6_make_0 : dcAll M_X6_make.2.1 dl_X6_make_0 = true := by decide +kernel
def dl_X6_make_1 : List (Nat × Instr × Nat) := [(77, .getfield 67, 3), (80, .iconst 1, 1), (81, .isub, 1), (82, .ireturn, 1)]
theorem da_X6_make_1 : dcAll M_X6_make.2.1 dl_X6_make_1 = true := by decide +kernel
theorem q_X6_make_0 : decode M_X6_make.2.1 0 = .ok (.aload_n 0, 1) ∧ 0 + 1 = 1 := ⟨dcAll_e (i := 0) da_X6_make_0 rfl, rfl⟩
theorem q_X6_make_1 : decode M_X6_make.2.1 1 = .ok (.getfield 67, 3) ∧ 1 + 3 = 4 := ⟨dcAll_e (i := 1) da_X6_make_0 rfl, rfl⟩
theorem q_X6_make_4 : decode M_X6_make.2.1 4 = .ok (.bipush 60, 2) ∧ 4 + 2 = 6 := ⟨dcAll_e (i := 2) da_X6_make_0 rfl, rfl⟩
theorem q_X6_make_6 : decode M_X6_make.2.1 6 = .ok (.if_icmp .lt 6, 3) ∧ 6 + 3 = 9 ∧ ((6 : Nat) : Int) + 6 = ((12 : Nat) : Int) := ⟨dcAll_e (i := 3) da_X6_make_0 rfl, rfl, rfl⟩
theorem q_X6_make_9 : decode M_X6_make.2.1 9 = .ok (.bipush (-2), 2) ∧ 9 + 2 = 11 := ⟨dcAll_e (i := 4) da_X6_make_0 rfl, rfl⟩
theorem q_X6_make_11 : decode M_X6_make.2.1 11 = .ok (.ireturn, 1) ∧ 11 + 1 = 12 := ⟨dcAll_e (i := 5) da_X6_make_0 rfl, rfl⟩
theorem q_X6_make_12 : decode M_X6_make.2.1 12 = .ok (.aload_n 0, 1) ∧ 12 + 1 = 13 := ⟨dcAll_e (i := 6) da_X6_make_0 rfl, rfl⟩
theorem q_X6_make_13 : decode M_X6_make.2.1 13 = .ok (.getfield 11, 3) ∧ 13 + 3 = 16 := ⟨dcAll_e (i := 7) da_X6_make_0 rfl, rfl⟩
theorem q_X6_make_16 : decode M_X6_make.2.1 16 = .ok (.aload_n 0, 1) ∧ 16 + 1 = 17 := ⟨dcAll_e (i := 8) da_X6_make_0 rfl, rfl⟩
theorem q_X6_make_17 : decode M_X6_make.2.1 17 = .ok (.getfield 67, 3) ∧ 17 + 3 = 20 := ⟨dcAll_e (i := 9) da_X6_make_0 rfl, rfl⟩
theorem q_X6_make_20 : decode M_X6_make.2.1 20 = .ok (.aaload, 1) ∧ 20 + 1 = 21 := ⟨dcAll_e (i := 10) da_X6_make_0 rfl, rfl⟩
theorem q_X6_make_21 : decode M_X6_make.2.1 21 = .ok (.astore 8, 2) ∧ 21 + 2 = 23 := ⟨dcAll_e (i := 11) da_X6_make_0 rfl, rfl⟩
theorem q_X6_make_23 : decode M_X6_make.2.1 23 = .ok (.aload 8, 2) ∧ 23 + 2 = 25 := ⟨dcAll_e (i := 12) da_X6_make_0 rfl, rfl⟩
theorem q_X6_make_25 : decode M_X6_make.2.1 25 = .ok (.ifnonnull 23, 3) ∧ 25 + 3 = 28 ∧ ((25 : Nat) : Int) + 23 = ((48 : Nat) : Int) := ⟨dcAll_e (i := 13) da_X6_make_0 rfl, rfl, rfl⟩
theorem q_X6_make_28 : decode M_X6_make.2.1 28 = .ok (.new 9, 3) ∧ 28 + 3 = 31 := ⟨dcAll_e (i := 14) da_X6_make_0 rfl, rfl⟩
theorem n_RX6_9 : en_N RX6 9 5 11 [.int 0, .long 0, .long 0, .int 0, .int 0, .int 0, .int 0, .null, .null, .int 0, .null] := ⟨RX5, TX5, tyX5, rfl, by decide +kernel, by decide +kernel, in_X5, uw_X5, tyX5_ok, fun j hj => by match j, hj with | 0, _ => rfl | 1, _ => rfl | 2, _ => rfl | 3, _ => rfl | 4, _ => rfl | 5, _ => rfl | 6, _ => rfl | 7, _ => rfl | 8, _ => rfl | 9, _ => rfl | 10, _ => rfl | j + 11, h => omega⟩
theorem q_X6_make_31 : decode M_X6_make.2.1 31 = .ok (.dup, 1) ∧ 31 + 1 = 32 := ⟨dcAll_e (i := 15) da_X6_make_0 rfl, rfl⟩
theorem q_X6_make_32 : decode M_X6_make.2.1 32 = .ok (.invokespecial 133, 3) ∧ 32 + 3 = 35 := ⟨dcAll_e (i := 16) da_X6_make_0 rfl, rfl⟩
theorem cd_X5_init : Cond.code M_X5_init.1 M_X5_init.2.1 M_X5_init.2.2.1 M_X5_init.2.2.2.1 ∈ en_tbl := inT1 205 rfl rfl
theorem g_X6_make_32 : en_CN M_X6_make M_X5_init 133 0 "EnclosedDigits" := ⟨⟨by decide +kernel, in_X5, cd_X5_init⟩, ⟨by decide, by decide, by decide +kernel⟩, by decide, by decide⟩
theorem w_X5_init : Cond.instanceMethod M_X5_init.1 ∈ en_tbl := inT1 204 rfl rfl
theorem q_X6_make_35 : decode M_X6_make.2.1 35 = .ok (.astore 8, 2) ∧ 35 + 2 = 37 := ⟨dcAll_e (i := 17) da_X6_make_0 rfl, rfl⟩
theorem q_X6_make_37 : decode M_X6_make.2.1 37 = .ok (.aload_n 0, 1) ∧ 37 + 1 = 38 := ⟨dcAll_e (i := 18) da_X6_make_0 rfl, rfl⟩
theorem q_X6_make_38 : decode M_X6_make.2.1 38 = .ok (.getfield 11, 3) ∧ 38 + 3 = 41 := ⟨dcAll_e (i := 19) da_X6_make_0 rfl, rfl⟩
theorem q_X6_make_41 : decode M_X6_make.2.1 41 = .ok (.aload_n 0, 1) ∧ 41 + 1 = 42 := ⟨dcAll_e (i := 20) da_X6_make_0 rfl, rfl⟩
theorem q_X6_make_42 : decode M_X6_make.2.1 42 = .ok (.getfield 67, 3) ∧ 42 + 3 = 45 := ⟨dcAll_e (i := 21) da_X6_make_0 rfl, rfl⟩
theorem q_X6_make_45 : decode M_X6_make.2.1 45 = .ok (.aload 8, 2) ∧ 45 + 2 = 47 := ⟨dcAll_e (i := 22) da_X6_make_0 rfl, rfl⟩
theorem q_X6_make_47 : decode M_X6_make.2.1 47 = .ok (.aastore, 1) ∧ 47 + 1 = 48 := ⟨dcAll_e (i := 23) da_X6_make_0 rfl, rfl⟩
theorem q_X6_make_48 : decode M_X6_make.2.1 48 = .ok (.aload 8, 2) ∧ 48 + 2 = 50 := ⟨dcAll_e (i := 24) da_X6_make_0 rfl, rfl⟩
theorem q_X6_make_50 : decode M_X6_make.2.1 50 = .ok (.iload_n 1, 1) ∧ 50 + 1 = 51 := ⟨dcAll_e (i := 25) da_X6_make_0 rfl, rfl⟩
theorem q_X6_make_51 : decode M_X6_make.2.1 51 = .ok (.lload_n 2, 1) ∧ 51 + 1 = 52 := ⟨dcAll_e (i := 26) da_X6_make_0 rfl, rfl⟩
theorem q_X6_make_52 : decode M_X6_make.2.1 52 = .ok (.lload 4, 2) ∧ 52 + 2 = 54 := ⟨dcAll_e (i := 27) da_X6_make_0 rfl, rfl⟩
theorem q_X6_make_54 : decode M_X6_make.2.1 54 = .ok (.invokevirtual 134, 3) ∧ 54 + 3 = 57 := ⟨dcAll_e (i := 28) da_X6_make_0 rfl, rfl⟩
theorem cd_X5_become : Cond.code M_X5_become.1 M_X5_become.2.1 M_X5_become.2.2.1 M_X5_become.2.2.2.1 ∈ en_tbl := inT2 24 rfl rfl
theorem g_X6_make_54 : en_C M_X6_make M_X5_become 134 3 := ⟨⟨inT2 21 rfl rfl, in_X5, cd_X5_become⟩, ⟨by decide, by decide, by decide +kernel⟩, by decide, by decide⟩
theorem w_X5_become : Cond.instanceMethod M_X5_become.1 ∈ en_tbl ∧ Cond.selects M_X5_become.1.cls M_X5_become.1 M_X5_become.1 ∈ en_tbl := ⟨inT2 22 rfl rfl, inT2 23 rfl rfl⟩
theorem q_X6_make_57 : decode M_X6_make.2.1 57 = .ok (.aload 8, 2) ∧ 57 + 2 = 59 := ⟨dcAll_e (i := 29) da_X6_make_0 rfl, rfl⟩
theorem q_X6_make_59 : decode M_X6_make.2.1 59 = .ok (.iload 6, 2) ∧ 59 + 2 = 61 := ⟨dcAll_e (i := 30) da_X6_make_0 rfl, rfl⟩
theorem q_X6_make_61 : decode M_X6_make.2.1 61 = .ok (.iload 7, 2) ∧ 61 + 2 = 63 := ⟨dcAll_e (i := 31) da_X6_make_0 rfl, rfl⟩
theorem q_X6_make_63 : decode M_X6_make.2.1 63 = .ok (.invokevirtual 138, 3) ∧ 63 + 3 = 66 := ⟨dcAll_e (i := 32) da_X6_make_0 rfl, rfl⟩
theorem cd_X5_stemFrom : Cond.code M_X5_stemFrom.1 M_X5_stemFrom.2.1 M_X5_stemFrom.2.2.1 M_X5_stemFrom.2.2.2.1 ∈ en_tbl := inT2 28 rfl rfl
theorem g_X6_make_63 : en_C M_X6_make M_X5_stemFrom 138 2 := ⟨⟨inT2 25 rfl rfl, in_X5, cd_X5_stemFrom⟩, ⟨by decide, by decide, by decide +kernel⟩, by decide, by decide⟩
theorem w_X5_stemFrom : Cond.instanceMethod M_X5_stemFrom.1 ∈ en_tbl ∧ Cond.selects M_X5_stemFrom.1.cls M_X5_stemFrom.1 M_X5_stemFrom.1 ∈ en_tbl := ⟨inT2 26 rfl rfl, inT2 27 rfl rfl⟩
theorem q_X6_make_66 : decode M_X6_make.2.1 66 = .ok (.aload_n 0, 1) ∧ 66 + 1 = 67 := ⟨dcAll_e (i := 33) da_X6_make_0 rfl, rfl⟩
theorem q_X6_make_67 : decode M_X6_make.2.1 67 = .ok (.dup, 1) ∧ 67 + 1 = 68 := ⟨dcAll_e (i := 34) da_X6_make_0 rfl, rfl⟩
theorem q_X6_make_68 : decode M_X6_make.2.1 68 = .ok (.getfield 67, 3) ∧ 68 + 3 = 71 := ⟨dcAll_e (i := 35) da_X6_make_0 rfl, rfl⟩
theorem q_X6_make_71 : decode M_X6_make.2.1 71 = .ok (.iconst 1, 1) ∧ 71 + 1 = 72 := ⟨dcAll_e (i := 36) da_X6_make_0 rfl, rfl⟩
theorem q_X6_make_72 : decode M_X6_make.2.1 72 = .ok (.iadd, 1) ∧ 72 + 1 = 73 := ⟨dcAll_e (i := 37) da_X6_make_0 rfl, rfl⟩
theorem q_X6_make_73 : decode M_X6_make.2.1 73 = .ok (.putfield 67, 3) ∧ 73 + 3 = 76 := ⟨dcAll_e (i := 38) da_X6_make_0 rfl, rfl⟩
theorem q_X6_make_76 : decode M_X6_make.2.1 76 = .ok (.aload_n 0, 1) ∧ 76 + 1 = 77 := ⟨dcAll_e (i := 39) da_X6_make_0 rfl, rfl⟩
theorem q_X6_make_77 : decode M_X6_make.2.1 77 = .ok (.getfield 67, 3) ∧ 77 + 3 = 80 := ⟨dcAll_e (i := 0) da_X6_make_1 rfl, rfl⟩
theorem q_X6_make_80 : decode M_X6_make.2.1 80 = .ok (.iconst 1, 1) ∧ 80 + 1 = 81 := ⟨dcAll_e (i := 1) da_X6_make_1 rfl, rfl⟩
theorem q_X6_make_81 : decode M_X6_make.2.1 81 = .ok (.isub, 1) ∧ 81 + 1 = 82 := ⟨dcAll_e (i := 2) da_X6_make_1 rfl, rfl⟩
theorem q_X6_make_82 : decode M_X6_make.2.1 82 = .ok (.ireturn, 1) ∧ 82 + 1 = 83 := ⟨dcAll_e (i := 3) da_X6_make_1 rfl, rfl⟩
def dl_X6_digitsAreTold_0 : List (Nat × Instr × Nat) := [(0, .aload_n 1, 1), (1, .ifnull 10, 3), (4, .aload_n 1, 1), (5, .getfield 106, 3), (8, .ifCond .eq 5, 3), (11, .iconst 0, 1), (12, .ireturn, 1), (13, .aload_n 0, 1), (14, .getfield 25, 3), (17, .aload_n 1, 1), (18, .getfield 110, 3), (21, .invokevirtual 82, 3), (24, .aload_n 0, 1), (25, .getfield 25, 3), (28, .iload_n 2, 1), (29, .iconst (-1), 1), (30, .invokevirtual 142, 3), (33, .aload_n 0, 1), (34, .getfield 29, 3), (37, .aload_n 1, 1), (38, .getfield 113, 3), (41, .invokevirtual 82, 3), (44, .aload_n 0, 1), (45, .getfield 29, 3), (48, .iload_n 2, 1), (49, .iconst (-1), 1), (50, .invokevirtual 142, 3), (53, .aload_n 0, 1), (54, .getfield 25, 3), (57, .aload_n 0, 1), (58, .getfield 29, 3), (61, .invokevirtual 145, 3), (64, .ifCond .ne 7, 3), (67, .iconst 1, 1), (68, .goto 4, 3), (71, .iconst 0, 1), (72, .ireturn, 1)]
theorem da_X6_digitsAreTold_0 : dcAll M_X6_digitsAreTold.2.1 dl_X6_digitsAreTold_0 = true := by decide +kernel
theorem q_X6_digitsAreTold_0 : decode M_X6_digitsAreTold.2.1 0 = .ok (.aload_n 1, 1) ∧ 0 + 1 = 1 := ⟨dcAll_e (i := 0) da_X6_digitsAreTold_0 rfl, rfl⟩
theorem q_X6_digitsAreTold_1 : decode M_X6_digitsAreTold.2.1 1 = .ok (.ifnull 10, 3) ∧ 1 + 3 = 4 ∧ ((1 : Nat) : Int) + 10 = ((11 : Nat) : Int) := ⟨dcAll_e (i := 1) da_X6_digitsAreTold_0 rfl, rfl, rfl⟩
theorem q_X6_digitsAreTold_4 : decode M_X6_digitsAreTold.2.1 4 = .ok (.aload_n 1, 1) ∧ 4 + 1 = 5 := ⟨dcAll_e (i := 2) da_X6_digitsAreTold_0 rfl, rfl⟩
theorem q_X6_digitsAreTold_5 : decode M_X6_digitsAreTold.2.1 5 = .ok (.getfield 106, 3) ∧ 5 + 3 = 8 := ⟨dcAll_e (i := 3) da_X6_digitsAreTold_0 rfl, rfl⟩
theorem q_X6_digitsAreTold_8 : decode M_X6_digitsAreTold.2.1 8 = .ok (.ifCond .eq 5, 3) ∧ 8 + 3 = 11 ∧ ((8 : Nat) : Int) + 5 = ((13 : Nat) : Int) := ⟨dcAll_e (i := 4) da_X6_digitsAreTold_0 rfl, rfl, rfl⟩
theorem q_X6_digitsAreTold_11 : decode M_X6_digitsAreTold.2.1 11 = .ok (.iconst 0, 1) ∧ 11 + 1 = 12 := ⟨dcAll_e (i := 5) da_X6_digitsAreTold_0 rfl, rfl⟩
theorem q_X6_digitsAreTold_12 : decode M_X6_digitsAreTold.2.1 12 = .ok (.ireturn, 1) ∧ 12 + 1 = 13 := ⟨dcAll_e (i := 6) da_X6_digitsAreTold_0 rfl, rfl⟩
theorem q_X6_digitsAreTold_13 : decode M_X6_digitsAreTold.2.1 13 = .ok (.aload_n 0, 1) ∧ 13 + 1 = 14 := ⟨dcAll_e (i := 7) da_X6_digitsAreTold_0 rfl, rfl⟩
theorem q_X6_digitsAreTold_14 : decode M_X6_digitsAreTold.2.1 14 = .ok (.getfield 25, 3) ∧ 14 + 3 = 17 := ⟨dcAll_e (i := 8) da_X6_digitsAreTold_0 rfl, rfl⟩
theorem q_X6_digitsAreTold_17 : decode M_X6_digitsAreTold.2.1 17 = .ok (.aload_n 1, 1) ∧ 17 + 1 = 18 := ⟨dcAll_e (i := 9) da_X6_digitsAreTold_0 rfl, rfl⟩
theorem q_X6_digitsAreTold_18 : decode M_X6_digitsAreTold.2.1 18 = .ok (.getfield 110, 3) ∧ 18 + 3 = 21 := ⟨dcAll_e (i := 10) da_X6_digitsAreTold_0 rfl, rfl⟩
theorem q_X6_digitsAreTold_21 : decode M_X6_digitsAreTold.2.1 21 = .ok (.invokevirtual 82, 3) ∧ 21 + 3 = 24 := ⟨dcAll_e (i := 11) da_X6_digitsAreTold_0 rfl, rfl⟩
theorem g_X6_digitsAreTold_21 : en_C M_X6_digitsAreTold M_X1_copy 82 1 := ⟨⟨inT3 80 rfl rfl, in_X1, cd_X1_copy⟩, ⟨by decide, by decide, by decide +kernel⟩, by decide, by decide⟩
theorem q_X6_digitsAreTold_24 : decode M_X6_digitsAreTold.2.1 24 = .ok (.aload_n 0, 1) ∧ 24 + 1 = 25 := ⟨dcAll_e (i := 12) da_X6_digitsAreTold_0 rfl, rfl⟩
theorem q_X6_digitsAreTold_25 : decode M_X6_digitsAreTold.2.1 25 = .ok (.getfield 25, 3) ∧ 25 + 3 = 28 := ⟨dcAll_e (i := 13) da_X6_digitsAreTold_0 rfl, rfl⟩
theorem q_X6_digitsAreTold_28 : decode M_X6_digitsAreTold.2.1 28 = .ok (.iload_n 2, 1) ∧ 28 + 1 = 29 := ⟨dcAll_e (i := 14) da_X6_digitsAreTold_0 rfl, rfl⟩
theorem q_X6_digitsAreTold_29 : decode M_X6_digitsAreTold.2.1 29 = .ok (.iconst (-1), 1) ∧ 29 + 1 = 30 := ⟨dcAll_e (i := 15) da_X6_digitsAreTold_0 rfl, rfl⟩
theorem q_X6_digitsAreTold_30 : decode M_X6_digitsAreTold.2.1 30 = .ok (.invokevirtual 142, 3) ∧ 30 + 3 = 33 := ⟨dcAll_e (i := 16) da_X6_digitsAreTold_0 rfl, rfl⟩
theorem g_X6_digitsAreTold_30 : en_C M_X6_digitsAreTold M_X1_shrink 142 2 := ⟨⟨inT3 81 rfl rfl, in_X1, cd_X1_shrink⟩, ⟨by decide, by decide, by decide +kernel⟩, by decide, by decide⟩
theorem q_X6_digitsAreTold_33 : decode M_X6_digitsAreTold.2.1 33 = .ok (.aload_n 0, 1) ∧ 33 + 1 = 34 := ⟨dcAll_e (i := 17) da_X6_digitsAreTold_0 rfl, rfl⟩
theorem q_X6_digitsAreTold_34 : decode M_X6_digitsAreTold.2.1 34 = .ok (.getfield 29, 3) ∧ 34 + 3 = 37 := ⟨dcAll_e (i := 18) da_X6_digitsAreTold_0 rfl, rfl⟩
theorem f_RX6_29 : en_F RX6 29 6 4 := ⟨RX6, TX6, 15, rfl, by decide, rfl, inT1 151 rfl rfl, uw_X6⟩
theorem q_X6_digitsAreTold_37 : decode M_X6_digitsAreTold.2.1 37 = .ok (.aload_n 1, 1) ∧ 37 + 1 = 38 := ⟨dcAll_e (i := 19) da_X6_digitsAreTold_0 rfl, rfl⟩
theorem q_X6_digitsAreTold_38 : decode M_X6_digitsAreTold.2.1 38 = .ok (.getfield 113, 3) ∧ 38 + 3 = 41 := ⟨dcAll_e (i := 20) da_X6_digitsAreTold_0 rfl, rfl⟩
theorem q_X6_digitsAreTold_41 : decode M_X6_digitsAreTold.2.1 41 = .ok (.invokevirtual 82, 3) ∧ 41 + 3 = 44 := ⟨dcAll_e (i := 21) da_X6_digitsAreTold_0 rfl, rfl⟩
theorem g_X6_digitsAreTold_41 : en_C M_X6_digitsAreTold M_X1_copy 82 1 := ⟨⟨inT3 80 rfl rfl, in_X1, cd_X1_copy⟩, ⟨by decide, by decide, by decide +kernel⟩, by decide, by decide⟩
theorem q_X6_digitsAreTold_44 : decode M_X6_digitsAreTold.2.1 44 = .ok (.aload_n 0, 1) ∧ 44 + 1 = 45 := ⟨dcAll_e (i := 22) da_X6_digitsAreTold_0 rfl, rfl⟩
theorem q_X6_digitsAreTold_45 : decode M_X6_digitsAreTold.2.1 45 = .ok (.getfield 29, 3) ∧ 45 + 3 = 48 := ⟨dcAll_e (i := 23) da_X6_digitsAreTold_0 rfl, rfl⟩
theorem q_X6_digitsAreTold_48 : decode M_X6_digitsAreTold.2.1 48 = .ok (.iload_n 2, 1) ∧ 48 + 1 = 49 := ⟨dcAll_e (i := 24) da_X6_digitsAreTold_0 rfl, rfl⟩
theorem q_X6_digitsAreTold_49 : decode M_X6_digitsAreTold.2.1 49 = .ok (.iconst (-1), 1) ∧ 49 + 1 = 50 := ⟨dcAll_e (i := 25) da_X6_digitsAreTold_0 rfl, rfl⟩
theorem q_X6_digitsAreTold_50 : decode M_X6_digitsAreTold.2.1 50 = .ok (.invokevirtual 142, 3) ∧ 50 + 3 = 53 := ⟨dcAll_e (i := 26) da_X6_digitsAreTold_0 rfl, rfl⟩
theorem g_X6_digitsAreTold_50 : en_C M_X6_digitsAreTold M_X1_shrink 142 2 := ⟨⟨inT3 81 rfl rfl, in_X1, cd_X1_shrink⟩, ⟨by decide, by decide, by decide +kernel⟩, by decide, by decide⟩
theorem q_X6_digitsAreTold_53 : decode M_X6_digitsAreTold.2.1 53 = .ok (.aload_n 0, 1) ∧ 53 + 1 = 54 := ⟨dcAll_e (i := 27) da_X6_digitsAreTold_0 rfl, rfl⟩
theorem q_X6_digitsAreTold_54 : decode M_X6_digitsAreTold.2.1 54 = .ok (.getfield 25, 3) ∧ 54 + 3 = 57 := ⟨dcAll_e (i := 28) da_X6_digitsAreTold_0 rfl, rfl⟩
theorem q_X6_digitsAreTold_57 : decode M_X6_digitsAreTold.2.1 57 = .ok (.aload_n 0, 1) ∧ 57 + 1 = 58 := ⟨dcAll_e (i := 29) da_X6_digitsAreTold_0 rfl, rfl⟩
theorem q_X6_digitsAreTold_58 : decode M_X6_digitsAreTold.2.1 58 = .ok (.getfield 29, 3) ∧ 58 + 3 = 61 := ⟨dcAll_e (i := 30) da_X6_digitsAreTold_0 rfl, rfl⟩
theorem q_X6_digitsAreTold_61 : decode M_X6_digitsAreTold.2.1 61 = .ok (.invokevirtual 145, 3) ∧ 61 + 3 = 64 := ⟨dcAll_e (i := 31) da_X6_digitsAreTold_0 rfl, rfl⟩
theorem g_X6_digitsAreTold_61 : en_C M_X6_digitsAreTold M_X1_compare 145 1 := ⟨⟨inT3 82 rfl rfl, in_X1, cd_X1_compare⟩, ⟨by decide, by decide, by decide +kernel⟩, by decide, by decide⟩
theorem q_X6_digitsAreTold_64 : decode M_X6_digitsAreTold.2.1 64 = .ok (.ifCond .ne 7, 3) ∧ 64 + 3 = 67 ∧ ((64 : Nat) : Int) + 7 = ((71 : Nat) : Int) := ⟨dcAll_e (i := 32) da_X6_digitsAreTold_0 rfl, rfl, rfl⟩
theorem q_X6_digitsAreTold_67 : decode M_X6_digitsAreTold.2.1 67 = .ok (.iconst 1, 1) ∧ 67 + 1 = 68 := ⟨dcAll_e (i := 33) da_X6_digitsAreTold_0 rfl, rfl⟩
theorem q_X6_digitsAreTold_68 : decode M_X6_digitsAreTold.2.1 68 = .ok (.goto 4, 3) ∧ 68 + 3 = 71 ∧ ((68 : Nat) : Int) + 4 = ((72 : Nat) : Int) := ⟨dcAll_e (i := 34) da_X6_digitsAreTold_0 rfl, rfl, rfl⟩
theorem q_X6_digitsAreTold_71 : decode M_X6_digitsAreTold.2.1 71 = .ok (.iconst 0, 1) ∧ 71 + 1 = 72 := ⟨dcAll_e (i := 35) da_X6_digitsAreTold_0 rfl, rfl⟩
theorem q_X6_digitsAreTold_72 : decode M_X6_digitsAreTold.2.1 72 = .ok (.ireturn, 1) ∧ 72 + 1 = 73 := ⟨dcAll_e (i := 36) da_X6_digitsAreTold_0 rfl, rfl⟩
def dl_X6_sideOf_0 : List (Nat × Instr × Nat) := [(0, .aload_n 0, 1), (1, .ifnull 21, 3), (4, .aload_n 1, 1), (5, .ifnull 17, 3), (8, .aload_n 0, 1), (9, .getfield 106, 3), (12, .ifCond .ne 10, 3), (15, .aload_n 1, 1), (16, .getfield 106, 3), (19, .ifCond .eq 5, 3), (22, .iconst 0, 1), (23, .ireturn, 1), (24, .aload_n 1, 1), (25, .getfield 113, 3), (28, .aload_n 0, 1), (29, .getfield 110, 3), (32, .invokevirtual 145, 3), (35, .ifCond .ge 5, 3), (38, .iconst 1, 1), (39, .ireturn, 1), (40, .aload_n 0, 1), (41, .getfield 113, 3), (44, .aload_n 1, 1), (45, .getfield 110, 3), (48, .invokevirtual 145, 3), (51, .ifCond .ge 7, 3), (54, .iconst (-1), 1), (55, .goto 4, 3), (58, .iconst 0, 1), (59, .ireturn, 1)]
theorem da_X6_sideOf_0 : dcAll M_X6_sideOf.2.1 dl_X6_sideOf_0 = true := by decide +kernel
theorem q_X6_sideOf_0 : decode M_X6_sideOf.2.1 0 = .ok (.aload_n 0, 1) ∧ 0 + 1 = 1 := ⟨dcAll_e (i := 0) da_X6_sideOf_0 rfl, rfl⟩
theorem q_X6_sideOf_1 : decode M_X6_sideOf.2.1 1 = .ok (.ifnull 21, 3) ∧ 1 + 3 = 4 ∧ ((1 : Nat) : Int) + 21 = ((22 : Nat) : Int) := ⟨dcAll_e (i := 1) da_X6_sideOf_0 rfl, rfl, rfl⟩
theorem q_X6_sideOf_4 : decode M_X6_sideOf.2.1 4 = .ok (.aload_n 1, 1) ∧ 4 + 1 = 5 := ⟨dcAll_e (i := 2) da_X6_sideOf_0 rfl, rfl⟩
theorem q_X6_sideOf_5 : decode M_X6_sideOf.2.1 5 = .ok (.ifnull 17, 3) ∧ 5 + 3 = 8 ∧ ((5 : Nat) : Int) + 17 = ((22 : Nat) : Int) := ⟨dcAll_e (i := 3) da_X6_sideOf_0 rfl, rfl, rfl⟩
theorem q_X6_sideOf_8 : decode M_X6_sideOf.2.1 8 = .ok (.aload_n 0, 1) ∧ 8 + 1 = 9 := ⟨dcAll_e (i := 4) da_X6_sideOf_0 rfl, rfl⟩
theorem q_X6_sideOf_9 : decode M_X6_sideOf.2.1 9 = .ok (.getfield 106, 3) ∧ 9 + 3 = 12 := ⟨dcAll_e (i := 5) da_X6_sideOf_0 rfl, rfl⟩
theorem q_X6_sideOf_12 : decode M_X6_sideOf.2.1 12 = .ok (.ifCond .ne 10, 3) ∧ 12 + 3 = 15 ∧ ((12 : Nat) : Int) + 10 = ((22 : Nat) : Int) := ⟨dcAll_e (i := 6) da_X6_sideOf_0 rfl, rfl, rfl⟩
theorem q_X6_sideOf_15 : decode M_X6_sideOf.2.1 15 = .ok (.aload_n 1, 1) ∧ 15 + 1 = 16 := ⟨dcAll_e (i := 7) da_X6_sideOf_0 rfl, rfl⟩
theorem q_X6_sideOf_16 : decode M_X6_sideOf.2.1 16 = .ok (.getfield 106, 3) ∧ 16 + 3 = 19 := ⟨dcAll_e (i := 8) da_X6_sideOf_0 rfl, rfl⟩
theorem q_X6_sideOf_19 : decode M_X6_sideOf.2.1 19 = .ok (.ifCond .eq 5, 3) ∧ 19 + 3 = 22 ∧ ((19 : Nat) : Int) + 5 = ((24 : Nat) : Int) := ⟨dcAll_e (i := 9) da_X6_sideOf_0 rfl, rfl, rfl⟩
theorem q_X6_sideOf_22 : decode M_X6_sideOf.2.1 22 = .ok (.iconst 0, 1) ∧ 22 + 1 = 23 := ⟨dcAll_e (i := 10) da_X6_sideOf_0 rfl, rfl⟩
theorem q_X6_sideOf_23 : decode M_X6_sideOf.2.1 23 = .ok (.ireturn, 1) ∧ 23 + 1 = 24 := ⟨dcAll_e (i := 11) da_X6_sideOf_0 rfl, rfl⟩
theorem q_X6_sideOf_24 : decode M_X6_sideOf.2.1 24 = .ok (.aload_n 1, 1) ∧ 24 + 1 = 25 := ⟨dcAll_e (i := 12) da_X6_sideOf_0 rfl, rfl⟩
theorem q_X6_sideOf_25 : decode M_X6_sideOf.2.1 25 = .ok (.getfield 113, 3) ∧ 25 + 3 = 28 := ⟨dcAll_e (i := 13) da_X6_sideOf_0 rfl, rfl⟩
theorem q_X6_sideOf_28 : decode M_X6_sideOf.2.1 28 = .ok (.aload_n 0, 1) ∧ 28 + 1 = 29 := ⟨dcAll_e (i := 14) da_X6_sideOf_0 rfl, rfl⟩
theorem q_X6_sideOf_29 : decode M_X6_sideOf.2.1 29 = .ok (.getfield 110, 3) ∧ 29 + 3 = 32 := ⟨dcAll_e (i := 15) da_X6_sideOf_0 rfl, rfl⟩
theorem q_X6_sideOf_32 : decode M_X6_sideOf.2.1 32 = .ok (.invokevirtual 145, 3) ∧ 32 + 3 = 35 := ⟨dcAll_e (i := 16) da_X6_sideOf_0 rfl, rfl⟩
theorem g_X6_sideOf_32 : en_C M_X6_sideOf M_X1_compare 145 1 := ⟨⟨inT3 82 rfl rfl, in_X1, cd_X1_compare⟩, ⟨by decide, by decide, by decide +kernel⟩, by decide, by decide⟩
theorem q_X6_sideOf_35 : decode M_X6_sideOf.2.1 35 = .ok (.ifCond .ge 5, 3) ∧ 35 + 3 = 38 ∧ ((35 : Nat) : Int) + 5 = ((40 : Nat) : Int) := ⟨dcAll_e (i := 17) da_X6_sideOf_0 rfl, rfl, rfl⟩
theorem q_X6_sideOf_38 : decode M_X6_sideOf.2.1 38 = .ok (.iconst 1, 1) ∧ 38 + 1 = 39 := ⟨dcAll_e (i := 18) da_X6_sideOf_0 rfl, rfl⟩
theorem q_X6_sideOf_39 : decode M_X6_sideOf.2.1 39 = .ok (.ireturn, 1) ∧ 39 + 1 = 40 := ⟨dcAll_e (i := 19) da_X6_sideOf_0 rfl, rfl⟩
theorem q_X6_sideOf_40 : decode M_X6_sideOf.2.1 40 = .ok (.aload_n 0, 1) ∧ 40 + 1 = 41 := ⟨dcAll_e (i := 20) da_X6_sideOf_0 rfl, rfl⟩
theorem q_X6_sideOf_41 : decode M_X6_sideOf.2.1 41 = .ok (.getfield 113, 3) ∧ 41 + 3 = 44 := ⟨dcAll_e (i := 21) da_X6_sideOf_0 rfl, rfl⟩
theorem q_X6_sideOf_44 : decode M_X6_sideOf.2.1 44 = .ok (.aload_n 1, 1) ∧ 44 + 1 = 45 := ⟨dcAll_e (i := 22) da_X6_sideOf_0 rfl, rfl⟩
theorem q_X6_sideOf_45 : decode M_X6_sideOf.2.1 45 = .ok (.getfield 110, 3) ∧ 45 + 3 = 48 := ⟨dcAll_e (i := 23) da_X6_sideOf_0 rfl, rfl⟩
theorem q_X6_sideOf_48 : decode M_X6_sideOf.2.1 48 = .ok (.invokevirtual 145, 3) ∧ 48 + 3 = 51 := ⟨dcAll_e (i := 24) da_X6_sideOf_0 rfl, rfl⟩
theorem g_X6_sideOf_48 : en_C M_X6_sideOf M_X1_compare 145 1 := ⟨⟨inT3 82 rfl rfl, in_X1, cd_X1_compare⟩, ⟨by decide, by decide, by decide +kernel⟩, by decide, by decide⟩
theorem q_X6_sideOf_51 : decode M_X6_sideOf.2.1 51 = .ok (.ifCond .ge 7, 3) ∧ 51 + 3 = 54 ∧ ((51 : Nat) : Int) + 7 = ((58 : Nat) : Int) := ⟨dcAll_e (i := 25) da_X6_sideOf_0 rfl, rfl, rfl⟩
theorem q_X6_sideOf_54 : decode M_X6_sideOf.2.1 54 = .ok (.iconst (-1), 1) ∧ 54 + 1 = 55 := ⟨dcAll_e (i := 26) da_X6_sideOf_0 rfl, rfl⟩
theorem q_X6_sideOf_55 : decode M_X6_sideOf.2.1 55 = .ok (.goto 4, 3) ∧ 55 + 3 = 58 ∧ ((55 : Nat) : Int) + 4 = ((59 : Nat) : Int) := ⟨dcAll_e (i := 27) da_X6_sideOf_0 rfl, rfl, rfl⟩
theorem q_X6_sideOf_58 : decode M_X6_sideOf.2.1 58 = .ok (.iconst 0, 1) ∧ 58 + 1 = 59 := ⟨dcAll_e (i := 28) da_X6_sideOf_0 rfl, rfl⟩
theorem q_X6_sideOf_59 : decode M_X6_sideOf.2.1 59 = .ok (.ireturn, 1) ∧ 59 + 1 = 60 := ⟨dcAll_e (i := 29) da_X6_sideOf_0 rfl, rfl⟩
def dl_X6_quotientsAreTold_0 : List (Nat × Instr × Nat) := [(0, .aload_n 1, 1), (1, .ifnull 10, 3), (4, .aload_n 1, 1), (5, .getfield 106, 3), (8, .ifCond .eq 5, 3), (11, .iconst 0, 1), (12, .ireturn, 1), (13, .aload_n 0, 1), (14, .getfield 44, 3), (17, .aload_n 1, 1), (18, .getfield 110, 3), (21, .iload_n 3, 1), (22, .invokevirtual 149, 3), (25, .aload_n 0, 1), (26, .getfield 48, 3), (29, .aload_n 1, 1), (30, .getfield 113, 3), (33, .iload_n 3, 1), (34, .invokevirtual 149, 3), (37, .iconst 0, 1), (38, .istore 4, 2), (40, .iload 4, 2), (42, .iload_n 2, 1), (43, .if_icmp .ge 94, 3), (46, .iload 4, 2), (48, .aload_n 0, 1), (49, .getfield 55, 3), (52, .arraylength, 1), (53, .if_icmp .ge 84, 3), (56, .aload_n 0, 1), (57, .getfield 44, 3), (60, .aload_n 0, 1), (61, .getfield 18, 3), (64, .getfield 153, 3), (67, .invokevirtual 157, 3), (70, .ifCond .eq 20, 3), (73, .aload_n 0, 1), (74, .getfield 48, 3), (77, .aload_n 0, 1), (78, .getfield 18, 3)]
theorem da_X6_quotientsAreTold_0 : dcAll M_X6_quotientsAreTold.2.1 dl_X6_quotientsAreTold_0 = true := by decide +kernel
def dl_X6_quotientsAreTold_1 : List (Nat × Instr × Nat) := [(81, .getfield 153, 3), (84, .invokevirtual 157, 3), (87, .ifCond .ne 5, 3), (90, .iconst 0, 1), (91, .ireturn, 1), (92, .aload_n 0, 1), (93, .getfield 44, 3), (96, .getfield 161, 3), (99, .aload_n 0, 1), (100, .getfield 48, 3), (103, .getfield 161, 3), (106, .invokevirtual 145, 3), (109, .ifCond .eq 5, 3), (112, .iconst 0, 1), (113, .ireturn, 1), (114, .aload_n 0, 1), (115, .getfield 55, 3), (118, .iload 4, 2), (120, .aload_n 0, 1), (121, .getfield 44, 3), (124, .getfield 161, 3), (127, .invokevirtual 164, 3), (130, .lastore, 1), (131, .iinc 4 1, 3), (134, .goto (-94), 3), (137, .iconst 1, 1), (138, .ireturn, 1)]
theorem da_X6_quotientsAreTold_1 : dcAll M_X6_quotientsAreTold.2.1 dl_X6_quotientsAreTold_1 = true := by decide +kernel
theorem q_X6_quotientsAreTold_0 : decode M_X6_quotientsAreTold.2.1 0 = .ok (.aload_n 1, 1) ∧ 0 + 1 = 1 := ⟨dcAll_e (i := 0) da_X6_quotientsAreTold_0 rfl, rfl⟩
theorem q_X6_quotientsAreTold_1 : decode M_X6_quotientsAreTold.2.1 1 = .ok (.ifnull 10, 3) ∧ 1 + 3 = 4 ∧ ((1 : Nat) : Int) + 10 = ((11 : Nat) : Int) := ⟨dcAll_e (i := 1) da_X6_quotientsAreTold_0 rfl, rfl, rfl⟩
theorem q_X6_quotientsAreTold_4 : decode M_X6_quotientsAreTold.2.1 4 = .ok (.aload_n 1, 1) ∧ 4 + 1 = 5 := ⟨dcAll_e (i := 2) da_X6_quotientsAreTold_0 rfl, rfl⟩
theorem q_X6_quotientsAreTold_5 : decode M_X6_quotientsAreTold.2.1 5 = .ok (.getfield 106, 3) ∧ 5 + 3 = 8 := ⟨dcAll_e (i := 3) da_X6_quotientsAreTold_0 rfl, rfl⟩
theorem q_X6_quotientsAreTold_8 : decode M_X6_quotientsAreTold.2.1 8 = .ok (.ifCond .eq 5, 3) ∧ 8 + 3 = 11 ∧ ((8 : Nat) : Int) + 5 = ((13 : Nat) : Int) := ⟨dcAll_e (i := 4) da_X6_quotientsAreTold_0 rfl, rfl, rfl⟩
theorem q_X6_quotientsAreTold_11 : decode M_X6_quotientsAreTold.2.1 11 = .ok (.iconst 0, 1) ∧ 11 + 1 = 12 := ⟨dcAll_e (i := 5) da_X6_quotientsAreTold_0 rfl, rfl⟩
theorem q_X6_quotientsAreTold_12 : decode M_X6_quotientsAreTold.2.1 12 = .ok (.ireturn, 1) ∧ 12 + 1 = 13 := ⟨dcAll_e (i := 6) da_X6_quotientsAreTold_0 rfl, rfl⟩
theorem q_X6_quotientsAreTold_13 : decode M_X6_quotientsAreTold.2.1 13 = .ok (.aload_n 0, 1) ∧ 13 + 1 = 14 := ⟨dcAll_e (i := 7) da_X6_quotientsAreTold_0 rfl, rfl⟩
theorem q_X6_quotientsAreTold_14 : decode M_X6_quotientsAreTold.2.1 14 = .ok (.getfield 44, 3) ∧ 14 + 3 = 17 := ⟨dcAll_e (i := 8) da_X6_quotientsAreTold_0 rfl, rfl⟩
theorem f_RX6_44 : en_F RX6 44 6 9 := ⟨RX6, TX6, 15, rfl, by decide, rfl, inT1 156 rfl rfl, uw_X6⟩
theorem q_X6_quotientsAreTold_17 : decode M_X6_quotientsAreTold.2.1 17 = .ok (.aload_n 1, 1) ∧ 17 + 1 = 18 := ⟨dcAll_e (i := 9) da_X6_quotientsAreTold_0 rfl, rfl⟩
theorem q_X6_quotientsAreTold_18 : decode M_X6_quotientsAreTold.2.1 18 = .ok (.getfield 110, 3) ∧ 18 + 3 = 21 := ⟨dcAll_e (i := 10) da_X6_quotientsAreTold_0 rfl, rfl⟩
theorem q_X6_quotientsAreTold_21 : decode M_X6_quotientsAreTold.2.1 21 = .ok (.iload_n 3, 1) ∧ 21 + 1 = 22 := ⟨dcAll_e (i := 11) da_X6_quotientsAreTold_0 rfl, rfl⟩
theorem q_X6_quotientsAreTold_22 : decode M_X6_quotientsAreTold.2.1 22 = .ok (.invokevirtual 149, 3) ∧ 22 + 3 = 25 := ⟨dcAll_e (i := 12) da_X6_quotientsAreTold_0 rfl, rfl⟩
theorem cd_X3_start : Cond.code M_X3_start.1 M_X3_start.2.1 M_X3_start.2.2.1 M_X3_start.2.2.2.1 ∈ en_tbl := inT3 123 rfl rfl
theorem g_X6_quotientsAreTold_22 : en_C M_X6_quotientsAreTold M_X3_start 149 2 := ⟨⟨inT3 120 rfl rfl, in_X3, cd_X3_start⟩, ⟨by decide, by decide, by decide +kernel⟩, by decide, by decide⟩
theorem w_X3_start : Cond.instanceMethod M_X3_start.1 ∈ en_tbl ∧ Cond.selects M_X3_start.1.cls M_X3_start.1 M_X3_start.1 ∈ en_tbl := ⟨inT3 121 rfl rfl, inT3 122 rfl rfl⟩
theorem q_X6_quotientsAreTold_25 : decode M_X6_quotientsAreTold.2.1 25 = .ok (.aload_n 0, 1) ∧ 25 + 1 = 26 := ⟨dcAll_e (i := 13) da_X6_quotientsAreTold_0 rfl, rfl⟩
theorem q_X6_quotientsAreTold_26 : decode M_X6_quotientsAreTold.2.1 26 = .ok (.getfield 48, 3) ∧ 26 + 3 = 29 := ⟨dcAll_e (i := 14) da_X6_quotientsAreTold_0 rfl, rfl⟩
theorem f_RX6_48 : en_F RX6 48 6 10 := ⟨RX6, TX6, 15, rfl, by decide, rfl, inT1 157 rfl rfl, uw_X6⟩
theorem q_X6_quotientsAreTold_29 : decode M_X6_quotientsAreTold.2.1 29 = .ok (.aload_n 1, 1) ∧ 29 + 1 = 30 := ⟨dcAll_e (i := 15) da_X6_quotientsAreTold_0 rfl, rfl⟩
theorem q_X6_quotientsAreTold_30 : decode M_X6_quotientsAreTold.2.1 30 = .ok (.getfield 113, 3) ∧ 30 + 3 = 33 := ⟨dcAll_e (i := 16) da_X6_quotientsAreTold_0 rfl, rfl⟩
theorem q_X6_quotientsAreTold_33 : decode M_X6_quotientsAreTold.2.1 33 = .ok (.iload_n 3, 1) ∧ 33 + 1 = 34 := ⟨dcAll_e (i := 17) da_X6_quotientsAreTold_0 rfl, rfl⟩
theorem q_X6_quotientsAreTold_34 : decode M_X6_quotientsAreTold.2.1 34 = .ok (.invokevirtual 149, 3) ∧ 34 + 3 = 37 := ⟨dcAll_e (i := 18) da_X6_quotientsAreTold_0 rfl, rfl⟩
theorem g_X6_quotientsAreTold_34 : en_C M_X6_quotientsAreTold M_X3_start 149 2 := ⟨⟨inT3 120 rfl rfl, in_X3, cd_X3_start⟩, ⟨by decide, by decide, by decide +kernel⟩, by decide, by decide⟩
theorem q_X6_quotientsAreTold_37 : decode M_X6_quotientsAreTold.2.1 37 = .ok (.iconst 0, 1) ∧ 37 + 1 = 38 := ⟨dcAll_e (i := 19) da_X6_quotientsAreTold_0 rfl, rfl⟩
theorem q_X6_quotientsAreTold_38 : decode M_X6_quotientsAreTold.2.1 38 = .ok (.istore 4, 2) ∧ 38 + 2 = 40 := ⟨dcAll_e (i := 20) da_X6_quotientsAreTold_0 rfl, rfl⟩
theorem q_X6_quotientsAreTold_40 : decode M_X6_quotientsAreTold.2.1 40 = .ok (.iload 4, 2) ∧ 40 + 2 = 42 := ⟨dcAll_e (i := 21) da_X6_quotientsAreTold_0 rfl, rfl⟩
theorem q_X6_quotientsAreTold_42 : decode M_X6_quotientsAreTold.2.1 42 = .ok (.iload_n 2, 1) ∧ 42 + 1 = 43 := ⟨dcAll_e (i := 22) da_X6_quotientsAreTold_0 rfl, rfl⟩
theorem q_X6_quotientsAreTold_43 : decode M_X6_quotientsAreTold.2.1 43 = .ok (.if_icmp .ge 94, 3) ∧ 43 + 3 = 46 ∧ ((43 : Nat) : Int) + 94 = ((137 : Nat) : Int) := ⟨dcAll_e (i := 23) da_X6_quotientsAreTold_0 rfl, rfl, rfl⟩
theorem q_X6_quotientsAreTold_46 : decode M_X6_quotientsAreTold.2.1 46 = .ok (.iload 4, 2) ∧ 46 + 2 = 48 := ⟨dcAll_e (i := 24) da_X6_quotientsAreTold_0 rfl, rfl⟩
theorem q_X6_quotientsAreTold_48 : decode M_X6_quotientsAreTold.2.1 48 = .ok (.aload_n 0, 1) ∧ 48 + 1 = 49 := ⟨dcAll_e (i := 25) da_X6_quotientsAreTold_0 rfl, rfl⟩
theorem q_X6_quotientsAreTold_49 : decode M_X6_quotientsAreTold.2.1 49 = .ok (.getfield 55, 3) ∧ 49 + 3 = 52 := ⟨dcAll_e (i := 26) da_X6_quotientsAreTold_0 rfl, rfl⟩
theorem q_X6_quotientsAreTold_52 : decode M_X6_quotientsAreTold.2.1 52 = .ok (.arraylength, 1) ∧ 52 + 1 = 53 := ⟨dcAll_e (i := 27) da_X6_quotientsAreTold_0 rfl, rfl⟩
theorem q_X6_quotientsAreTold_53 : decode M_X6_quotientsAreTold.2.1 53 = .ok (.if_icmp .ge 84, 3) ∧ 53 + 3 = 56 ∧ ((53 : Nat) : Int) + 84 = ((137 : Nat) : Int) := ⟨dcAll_e (i := 28) da_X6_quotientsAreTold_0 rfl, rfl, rfl⟩
theorem q_X6_quotientsAreTold_56 : decode M_X6_quotientsAreTold.2.1 56 = .ok (.aload_n 0, 1) ∧ 56 + 1 = 57 := ⟨dcAll_e (i := 29) da_X6_quotientsAreTold_0 rfl, rfl⟩
theorem q_X6_quotientsAreTold_57 : decode M_X6_quotientsAreTold.2.1 57 = .ok (.getfield 44, 3) ∧ 57 + 3 = 60 := ⟨dcAll_e (i := 30) da_X6_quotientsAreTold_0 rfl, rfl⟩
theorem q_X6_quotientsAreTold_60 : decode M_X6_quotientsAreTold.2.1 60 = .ok (.aload_n 0, 1) ∧ 60 + 1 = 61 := ⟨dcAll_e (i := 31) da_X6_quotientsAreTold_0 rfl, rfl⟩
theorem q_X6_quotientsAreTold_61 : decode M_X6_quotientsAreTold.2.1 61 = .ok (.getfield 18, 3) ∧ 61 + 3 = 64 := ⟨dcAll_e (i := 32) da_X6_quotientsAreTold_0 rfl, rfl⟩
theorem q_X6_quotientsAreTold_64 : decode M_X6_quotientsAreTold.2.1 64 = .ok (.getfield 153, 3) ∧ 64 + 3 = 67 := ⟨dcAll_e (i := 33) da_X6_quotientsAreTold_0 rfl, rfl⟩
theorem f_RX6_153 : en_F RX6 153 2 0 := ⟨RX2, TX2, 7, rfl, by decide, rfl, inT1 101 rfl rfl, uw_X2⟩
theorem q_X6_quotientsAreTold_67 : decode M_X6_quotientsAreTold.2.1 67 = .ok (.invokevirtual 157, 3) ∧ 67 + 3 = 70 := ⟨dcAll_e (i := 34) da_X6_quotientsAreTold_0 rfl, rfl⟩
theorem cd_X3_step : Cond.code M_X3_step.1 M_X3_step.2.1 M_X3_step.2.2.1 M_X3_step.2.2.2.1 ∈ en_tbl := inT3 130 rfl rfl
theorem g_X6_quotientsAreTold_67 : en_C M_X6_quotientsAreTold M_X3_step 157 1 := ⟨⟨inT3 127 rfl rfl, in_X3, cd_X3_step⟩, ⟨by decide, by decide, by decide +kernel⟩, by decide, by decide⟩
theorem w_X3_step : Cond.instanceMethod M_X3_step.1 ∈ en_tbl ∧ Cond.selects M_X3_step.1.cls M_X3_step.1 M_X3_step.1 ∈ en_tbl := ⟨inT3 128 rfl rfl, inT3 129 rfl rfl⟩
theorem q_X6_quotientsAreTold_70 : decode M_X6_quotientsAreTold.2.1 70 = .ok (.ifCond .eq 20, 3) ∧ 70 + 3 = 73 ∧ ((70 : Nat) : Int) + 20 = ((90 : Nat) : Int) := ⟨dcAll_e (i := 35) da_X6_quotientsAreTold_0 rfl, rfl, rfl⟩
theorem q_X6_quotientsAreTold_73 : decode M_X6_quotientsAreTold.2.1 73 = .ok (.aload_n 0, 1) ∧ 73 + 1 = 74 := ⟨dcAll_e (i := 36) da_X6_quotientsAreTold_0 rfl, rfl⟩
theorem q_X6_quotientsAreTold_74 : decode M_X6_quotientsAreTold.2.1 74 = .ok (.getfield 48, 3) ∧ 74 + 3 = 77 := ⟨dcAll_e (i := 37) da_X6_quotientsAreTold_0 rfl, rfl⟩
theorem q_X6_quotientsAreTold_77 : decode M_X6_quotientsAreTold.2.1 77 = .ok (.aload_n 0, 1) ∧ 77 + 1 = 78 := ⟨dcAll_e (i := 38) da_X6_quotientsAreTold_0 rfl, rfl⟩
theorem q_X6_quotientsAreTold_78 : decode M_X6_quotientsAreTold.2.1 78 = .ok (.getfield 18, 3) ∧ 78 + 3 = 81 := ⟨dcAll_e (i := 39) da_X6_quotientsAreTold_0 rfl, rfl⟩
theorem q_X6_quotientsAreTold_81 : decode M_X6_quotientsAreTold.2.1 81 = .ok (.getfield 153, 3) ∧ 81 + 3 = 84 := ⟨dcAll_e (i := 0) da_X6_quotientsAreTold_1 rfl, rfl⟩
theorem q_X6_quotientsAreTold_84 : decode M_X6_quotientsAreTold.2.1 84 = .ok (.invokevirtual 157, 3) ∧ 84 + 3 = 87 := ⟨dcAll_e (i := 1) da_X6_quotientsAreTold_1 rfl, rfl⟩
theorem g_X6_quotientsAreTold_84 : en_C M_X6_quotientsAreTold M_X3_step 157 1 := ⟨⟨inT3 127 rfl rfl, in_X3, cd_X3_step⟩, ⟨by decide, by decide, by decide +kernel⟩, by decide, by decide⟩
theorem q_X6_quotientsAreTold_87 : decode M_X6_quotientsAreTold.2.1 87 = .ok (.ifCond .ne 5, 3) ∧ 87 + 3 = 90 ∧ ((87 : Nat) : Int) + 5 = ((92 : Nat) : Int) := ⟨dcAll_e (i := 2) da_X6_quotientsAreTold_1 rfl, rfl, rfl⟩
theorem q_X6_quotientsAreTold_90 : decode M_X6_quotientsAreTold.2.1 90 = .ok (.iconst 0, 1) ∧ 90 + 1 = 91 := ⟨dcAll_e (i := 3) da_X6_quotientsAreTold_1 rfl, rfl⟩
theorem q_X6_quotientsAreTold_91 : decode M_X6_quotientsAreTold.2.1 91 = .ok (.ireturn, 1) ∧ 91 + 1 = 92 := ⟨dcAll_e (i := 4) da_X6_quotientsAreTold_1 rfl, rfl⟩
theorem q_X6_quotientsAreTold_92 : decode M_X6_quotientsAreTold.2.1 92 = .ok (.aload_n 0, 1) ∧ 92 + 1 = 93 := ⟨dcAll_e (i := 5) da_X6_quotientsAreTold_1 rfl, rfl⟩
theorem q_X6_quotientsAreTold_93 : decode M_X6_quotientsAreTold.2.1 93 = .ok (.getfield 44, 3) ∧ 93 + 3 = 96 := ⟨dcAll_e (i := 6) da_X6_quotientsAreTold_1 rfl, rfl⟩
theorem q_X6_quotientsAreTold_96 : decode M_X6_quotientsAreTold.2.1 96 = .ok (.getfield 161, 3) ∧ 96 + 3 = 99 := ⟨dcAll_e (i := 7) da_X6_quotientsAreTold_1 rfl, rfl⟩
theorem f_RX6_161 : en_F RX6 161 3 3 := ⟨RX3, TX3, 4, rfl, by decide, rfl, inT1 137 rfl rfl, uw_X3⟩
theorem q_X6_quotientsAreTold_99 : decode M_X6_quotientsAreTold.2.1 99 = .ok (.aload_n 0, 1) ∧ 99 + 1 = 100 := ⟨dcAll_e (i := 8) da_X6_quotientsAreTold_1 rfl, rfl⟩
theorem q_X6_quotientsAreTold_100 : decode M_X6_quotientsAreTold.2.1 100 = .ok (.getfield 48, 3) ∧ 100 + 3 = 103 := ⟨dcAll_e (i := 9) da_X6_quotientsAreTold_1 rfl, rfl⟩
theorem q_X6_quotientsAreTold_103 : decode M_X6_quotientsAreTold.2.1 103 = .ok (.getfield 161, 3) ∧ 103 + 3 = 106 := ⟨dcAll_e (i := 10) da_X6_quotientsAreTold_1 rfl, rfl⟩
theorem q_X6_quotientsAreTold_106 : decode M_X6_quotientsAreTold.2.1 106 = .ok (.invokevirtual 145, 3) ∧ 106 + 3 = 109 := ⟨dcAll_e (i := 11) da_X6_quotientsAreTold_1 rfl, rfl⟩
theorem g_X6_quotientsAreTold_106 : en_C M_X6_quotientsAreTold M_X1_compare 145 1 := ⟨⟨inT3 82 rfl rfl, in_X1, cd_X1_compare⟩, ⟨by decide, by decide, by decide +kernel⟩, by decide, by decide⟩
theorem q_X6_quotientsAreTold_109 : decode M_X6_quotientsAreTold.2.1 109 = .ok (.ifCond .eq 5, 3) ∧ 109 + 3 = 112 ∧ ((109 : Nat) : Int) + 5 = ((114 : Nat) : Int) := ⟨dcAll_e (i := 12) da_X6_quotientsAreTold_1 rfl, rfl, rfl⟩
theorem q_X6_quotientsAreTold_112 : decode M_X6_quotientsAreTold.2.1 112 = .ok (.iconst 0, 1) ∧ 112 + 1 = 113 := ⟨dcAll_e (i := 13) da_X6_quotientsAreTold_1 rfl, rfl⟩
theorem q_X6_quotientsAreTold_113 : decode M_X6_quotientsAreTold.2.1 113 = .ok (.ireturn, 1) ∧ 113 + 1 = 114 := ⟨dcAll_e (i := 14) da_X6_quotientsAreTold_1 rfl, rfl⟩
theorem q_X6_quotientsAreTold_114 : decode M_X6_quotientsAreTold.2.1 114 = .ok (.aload_n 0, 1) ∧ 114 + 1 = 115 := ⟨dcAll_e (i := 15) da_X6_quotientsAreTold_1 rfl, rfl⟩
theorem q_X6_quotientsAreTold_115 : decode M_X6_quotientsAreTold.2.1 115 = .ok (.getfield 55, 3) ∧ 115 + 3 = 118 := ⟨dcAll_e (i := 16) da_X6_quotientsAreTold_1 rfl, rfl⟩
theorem q_X6_quotientsAreTold_118 : decode M_X6_quotientsAreTold.2.1 118 = .ok (.iload 4, 2) ∧ 118 + 2 = 120 := ⟨dcAll_e (i := 17) da_X6_quotientsAreTold_1 rfl, rfl⟩
theorem q_X6_quotientsAreTold_120 : decode M_X6_quotientsAreTold.2.1 120 = .ok (.aload_n 0, 1) ∧ 120 + 1 = 121 := ⟨dcAll_e (i := 18) da_X6_quotientsAreTold_1 rfl, rfl⟩
theorem q_X6_quotientsAreTold_121 : decode M_X6_quotientsAreTold.2.1 121 = .ok (.getfield 44, 3) ∧ 121 + 3 = 124 := ⟨dcAll_e (i := 19) da_X6_quotientsAreTold_1 rfl, rfl⟩
theorem q_X6_quotientsAreTold_124 : decode M_X6_quotientsAreTold.2.1 124 = .ok (.getfield 161, 3) ∧ 124 + 3 = 127 := ⟨dcAll_e (i := 20) da_X6_quotientsAreTold_1 rfl, rfl⟩
theorem q_X6_quotientsAreTold_127 : decode M_X6_quotientsAreTold.2.1 127 = .ok (.invokevirtual 164, 3) ∧ 127 + 3 = 130 := ⟨dcAll_e (i := 21) da_X6_quotientsAreTold_1 rfl, rfl⟩
theorem cd_X1_clamped : Cond.code M_X1_clamped.1 M_X1_clamped.2.1 M_X1_clamped.2.2.1 M_X1_clamped.2.2.2.1 ∈ en_tbl := inT3 141 rfl rfl
theorem g_X6_quotientsAreTold_127 : en_C M_X6_quotientsAreTold M_X1_clamped 164 0 := ⟨⟨inT3 138 rfl rfl, in_X1, cd_X1_clamped⟩, ⟨by decide, by decide, by decide +kernel⟩, by decide, by decide⟩
theorem w_X1_clamped : Cond.instanceMethod M_X1_clamped.1 ∈ en_tbl ∧ Cond.selects M_X1_clamped.1.cls M_X1_clamped.1 M_X1_clamped.1 ∈ en_tbl := ⟨inT3 139 rfl rfl, inT3 140 rfl rfl⟩
theorem q_X6_quotientsAreTold_130 : decode M_X6_quotientsAreTold.2.1 130 = .ok (.lastore, 1) ∧ 130 + 1 = 131 := ⟨dcAll_e (i := 22) da_X6_quotientsAreTold_1 rfl, rfl⟩
theorem q_X6_quotientsAreTold_131 : decode M_X6_quotientsAreTold.2.1 131 = .ok (.iinc 4 1, 3) ∧ 131 + 3 = 134 := ⟨dcAll_e (i := 23) da_X6_quotientsAreTold_1 rfl, rfl⟩
theorem q_X6_quotientsAreTold_134 : decode M_X6_quotientsAreTold.2.1 134 = .ok (.goto (-94), 3) ∧ 134 + 3 = 137 ∧ ((134 : Nat) : Int) + (-94) = ((40 : Nat) : Int) := ⟨dcAll_e (i := 24) da_X6_quotientsAreTold_1 rfl, rfl, rfl⟩
theorem q_X6_quotientsAreTold_137 : decode M_X6_quotientsAreTold.2.1 137 = .ok (.iconst 1, 1) ∧ 137 + 1 = 138 := ⟨dcAll_e (i := 25) da_X6_quotientsAreTold_1 rfl, rfl⟩
theorem q_X6_quotientsAreTold_138 : decode M_X6_quotientsAreTold.2.1 138 = .ok (.ireturn, 1) ∧ 138 + 1 = 139 := ⟨dcAll_e (i := 26) da_X6_quotientsAreTold_1 rfl, rfl⟩
