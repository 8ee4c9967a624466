/-! instructions, fields, calls -/
theorem q_J7_rangeCheck_23922_0 : decode M_J7_rangeCheck_23922.2.1 0 = .ok (.iload_n 1, 1) ∧ 0 + 1 = 1 := ⟨by decide +kernel, rfl⟩
theorem q_J7_rangeCheck_23922_1 : decode M_J7_rangeCheck_23922.2.1 1 = .ok (.iload_n 2, 1) ∧ 1 + 1 = 2 := ⟨by decide +kernel, rfl⟩
theorem q_J7_rangeCheck_23922_2 : decode M_J7_rangeCheck_23922.2.1 2 = .ok (.if_icmp .le 44, 3) ∧ 2 + 3 = 5 ∧ ((2 : Nat) : Int) + 44 = ((46 : Nat) : Int) := ⟨by decide +kernel, rfl, rfl⟩
theorem q_J7_rangeCheck_23922_5 : decode M_J7_rangeCheck_23922.2.1 5 = .ok (.new 43, 3) ∧ 5 + 3 = 8 := ⟨by decide +kernel, rfl⟩
theorem q_J7_rangeCheck_23922_8 : decode M_J7_rangeCheck_23922.2.1 8 = .ok (.dup, 1) ∧ 8 + 1 = 9 := ⟨by decide +kernel, rfl⟩
theorem q_J7_rangeCheck_23922_9 : decode M_J7_rangeCheck_23922.2.1 9 = .ok (.new 45, 3) ∧ 9 + 3 = 12 := ⟨by decide +kernel, rfl⟩
theorem q_J7_rangeCheck_23922_12 : decode M_J7_rangeCheck_23922.2.1 12 = .ok (.dup, 1) ∧ 12 + 1 = 13 := ⟨by decide +kernel, rfl⟩
theorem q_J7_rangeCheck_23922_13 : decode M_J7_rangeCheck_23922.2.1 13 = .ok (.invokespecial 47, 3) ∧ 13 + 3 = 16 := ⟨by decide +kernel, rfl⟩
theorem q_J7_rangeCheck_23922_16 : decode M_J7_rangeCheck_23922.2.1 16 = .ok (.ldc 48, 2) ∧ 16 + 2 = 18 := ⟨by decide +kernel, rfl⟩
theorem q_J7_rangeCheck_23922_18 : decode M_J7_rangeCheck_23922.2.1 18 = .ok (.invokevirtual 50, 3) ∧ 18 + 3 = 21 := ⟨by decide +kernel, rfl⟩
theorem q_J7_rangeCheck_23922_21 : decode M_J7_rangeCheck_23922.2.1 21 = .ok (.iload_n 1, 1) ∧ 21 + 1 = 22 := ⟨by decide +kernel, rfl⟩
theorem q_J7_rangeCheck_23922_22 : decode M_J7_rangeCheck_23922.2.1 22 = .ok (.invokevirtual 54, 3) ∧ 22 + 3 = 25 := ⟨by decide +kernel, rfl⟩
theorem q_J7_rangeCheck_23922_25 : decode M_J7_rangeCheck_23922.2.1 25 = .ok (.ldc 57, 2) ∧ 25 + 2 = 27 := ⟨by decide +kernel, rfl⟩
theorem q_J7_rangeCheck_23922_27 : decode M_J7_rangeCheck_23922.2.1 27 = .ok (.invokevirtual 50, 3) ∧ 27 + 3 = 30 := ⟨by decide +kernel, rfl⟩
theorem q_J7_rangeCheck_23922_30 : decode M_J7_rangeCheck_23922.2.1 30 = .ok (.iload_n 2, 1) ∧ 30 + 1 = 31 := ⟨by decide +kernel, rfl⟩
theorem q_J7_rangeCheck_23922_31 : decode M_J7_rangeCheck_23922.2.1 31 = .ok (.invokevirtual 54, 3) ∧ 31 + 3 = 34 := ⟨by decide +kernel, rfl⟩
theorem q_J7_rangeCheck_23922_34 : decode M_J7_rangeCheck_23922.2.1 34 = .ok (.ldc 59, 2) ∧ 34 + 2 = 36 := ⟨by decide +kernel, rfl⟩
theorem q_J7_rangeCheck_23922_36 : decode M_J7_rangeCheck_23922.2.1 36 = .ok (.invokevirtual 50, 3) ∧ 36 + 3 = 39 := ⟨by decide +kernel, rfl⟩
theorem q_J7_rangeCheck_23922_39 : decode M_J7_rangeCheck_23922.2.1 39 = .ok (.invokevirtual 61, 3) ∧ 39 + 3 = 42 := ⟨by decide +kernel, rfl⟩
theorem q_J7_rangeCheck_23922_42 : decode M_J7_rangeCheck_23922.2.1 42 = .ok (.invokespecial 65, 3) ∧ 42 + 3 = 45 := ⟨by decide +kernel, rfl⟩
theorem q_J7_rangeCheck_23922_45 : decode M_J7_rangeCheck_23922.2.1 45 = .ok (.athrow, 1) ∧ 45 + 1 = 46 := ⟨by decide +kernel, rfl⟩
theorem q_J7_rangeCheck_23922_46 : decode M_J7_rangeCheck_23922.2.1 46 = .ok (.iload_n 1, 1) ∧ 46 + 1 = 47 := ⟨by decide +kernel, rfl⟩
theorem q_J7_rangeCheck_23922_47 : decode M_J7_rangeCheck_23922.2.1 47 = .ok (.ifCond .ge 12, 3) ∧ 47 + 3 = 50 ∧ ((47 : Nat) : Int) + 12 = ((59 : Nat) : Int) := ⟨by decide +kernel, rfl, rfl⟩
theorem q_J7_rangeCheck_23922_50 : decode M_J7_rangeCheck_23922.2.1 50 = .ok (.new 68, 3) ∧ 50 + 3 = 53 := ⟨by decide +kernel, rfl⟩
theorem q_J7_rangeCheck_23922_53 : decode M_J7_rangeCheck_23922.2.1 53 = .ok (.dup, 1) ∧ 53 + 1 = 54 := ⟨by decide +kernel, rfl⟩
theorem q_J7_rangeCheck_23922_54 : decode M_J7_rangeCheck_23922.2.1 54 = .ok (.iload_n 1, 1) ∧ 54 + 1 = 55 := ⟨by decide +kernel, rfl⟩
theorem q_J7_rangeCheck_23922_55 : decode M_J7_rangeCheck_23922.2.1 55 = .ok (.invokespecial 70, 3) ∧ 55 + 3 = 58 := ⟨by decide +kernel, rfl⟩
theorem q_J7_rangeCheck_23922_58 : decode M_J7_rangeCheck_23922.2.1 58 = .ok (.athrow, 1) ∧ 58 + 1 = 59 := ⟨by decide +kernel, rfl⟩
theorem q_J7_rangeCheck_23922_59 : decode M_J7_rangeCheck_23922.2.1 59 = .ok (.iload_n 2, 1) ∧ 59 + 1 = 60 := ⟨by decide +kernel, rfl⟩
theorem q_J7_rangeCheck_23922_60 : decode M_J7_rangeCheck_23922.2.1 60 = .ok (.iload_n 0, 1) ∧ 60 + 1 = 61 := ⟨by decide +kernel, rfl⟩
theorem q_J7_rangeCheck_23922_61 : decode M_J7_rangeCheck_23922.2.1 61 = .ok (.if_icmp .le 12, 3) ∧ 61 + 3 = 64 ∧ ((61 : Nat) : Int) + 12 = ((73 : Nat) : Int) := ⟨by decide +kernel, rfl, rfl⟩
theorem q_J7_rangeCheck_23922_64 : decode M_J7_rangeCheck_23922.2.1 64 = .ok (.new 68, 3) ∧ 64 + 3 = 67 := ⟨by decide +kernel, rfl⟩
theorem q_J7_rangeCheck_23922_67 : decode M_J7_rangeCheck_23922.2.1 67 = .ok (.dup, 1) ∧ 67 + 1 = 68 := ⟨by decide +kernel, rfl⟩
theorem q_J7_rangeCheck_23922_68 : decode M_J7_rangeCheck_23922.2.1 68 = .ok (.iload_n 2, 1) ∧ 68 + 1 = 69 := ⟨by decide +kernel, rfl⟩
theorem q_J7_rangeCheck_23922_69 : decode M_J7_rangeCheck_23922.2.1 69 = .ok (.invokespecial 70, 3) ∧ 69 + 3 = 72 := ⟨by decide +kernel, rfl⟩
theorem q_J7_rangeCheck_23922_72 : decode M_J7_rangeCheck_23922.2.1 72 = .ok (.athrow, 1) ∧ 72 + 1 = 73 := ⟨by decide +kernel, rfl⟩
theorem q_J7_rangeCheck_23922_73 : decode M_J7_rangeCheck_23922.2.1 73 = .ok (.return_, 1) ∧ 73 + 1 = 74 := ⟨by decide +kernel, rfl⟩
theorem q_J7_fill_fda19_0 : decode M_J7_fill_fda19.2.1 0 = .ok (.aload_n 0, 1) ∧ 0 + 1 = 1 := ⟨by decide +kernel, rfl⟩
theorem q_J7_fill_fda19_1 : decode M_J7_fill_fda19.2.1 1 = .ok (.arraylength, 1) ∧ 1 + 1 = 2 := ⟨by decide +kernel, rfl⟩
theorem q_J7_fill_fda19_2 : decode M_J7_fill_fda19.2.1 2 = .ok (.iload_n 1, 1) ∧ 2 + 1 = 3 := ⟨by decide +kernel, rfl⟩
theorem q_J7_fill_fda19_3 : decode M_J7_fill_fda19.2.1 3 = .ok (.iload_n 2, 1) ∧ 3 + 1 = 4 := ⟨by decide +kernel, rfl⟩
theorem q_J7_fill_fda19_4 : decode M_J7_fill_fda19.2.1 4 = .ok (.invokestatic 13, 3) ∧ 4 + 3 = 7 := ⟨by decide +kernel, rfl⟩
theorem g_J7_fill_fda19_4 : en_C M_J7_fill_fda19 M_J7_rangeCheck_23922 13 3 := ⟨⟨by decide +kernel, by decide +kernel, by decide +kernel⟩, ⟨by decide, by decide, by decide +kernel⟩, by decide, by decide⟩
theorem w_J7_rangeCheck_23922 : Cond.static M_J7_rangeCheck_23922.1 ∈ en_tbl := by decide +kernel
theorem q_J7_fill_fda19_7 : decode M_J7_fill_fda19.2.1 7 = .ok (.iload_n 1, 1) ∧ 7 + 1 = 8 := ⟨by decide +kernel, rfl⟩
theorem q_J7_fill_fda19_8 : decode M_J7_fill_fda19.2.1 8 = .ok (.istore 4, 2) ∧ 8 + 2 = 10 := ⟨by decide +kernel, rfl⟩
theorem q_J7_fill_fda19_10 : decode M_J7_fill_fda19.2.1 10 = .ok (.iload 4, 2) ∧ 10 + 2 = 12 := ⟨by decide +kernel, rfl⟩
theorem q_J7_fill_fda19_12 : decode M_J7_fill_fda19.2.1 12 = .ok (.iload_n 2, 1) ∧ 12 + 1 = 13 := ⟨by decide +kernel, rfl⟩
theorem q_J7_fill_fda19_13 : decode M_J7_fill_fda19.2.1 13 = .ok (.if_icmp .ge 14, 3) ∧ 13 + 3 = 16 ∧ ((13 : Nat) : Int) + 14 = ((27 : Nat) : Int) := ⟨by decide +kernel, rfl, rfl⟩
theorem q_J7_fill_fda19_16 : decode M_J7_fill_fda19.2.1 16 = .ok (.aload_n 0, 1) ∧ 16 + 1 = 17 := ⟨by decide +kernel, rfl⟩
theorem q_J7_fill_fda19_17 : decode M_J7_fill_fda19.2.1 17 = .ok (.iload 4, 2) ∧ 17 + 2 = 19 := ⟨by decide +kernel, rfl⟩
theorem q_J7_fill_fda19_19 : decode M_J7_fill_fda19.2.1 19 = .ok (.iload_n 3, 1) ∧ 19 + 1 = 20 := ⟨by decide +kernel, rfl⟩
theorem q_J7_fill_fda19_20 : decode M_J7_fill_fda19.2.1 20 = .ok (.iastore, 1) ∧ 20 + 1 = 21 := ⟨by decide +kernel, rfl⟩
theorem q_J7_fill_fda19_21 : decode M_J7_fill_fda19.2.1 21 = .ok (.iinc 4 1, 3) ∧ 21 + 3 = 24 := ⟨by decide +kernel, rfl⟩
theorem q_J7_fill_fda19_24 : decode M_J7_fill_fda19.2.1 24 = .ok (.goto (-14), 3) ∧ 24 + 3 = 27 ∧ ((24 : Nat) : Int) + (-14) = ((10 : Nat) : Int) := ⟨by decide +kernel, rfl, rfl⟩
theorem q_J7_fill_fda19_27 : decode M_J7_fill_fda19.2.1 27 = .ok (.return_, 1) ∧ 27 + 1 = 28 := ⟨by decide +kernel, rfl⟩
theorem q_J7_copyOf_59c91_0 : decode M_J7_copyOf_59c91.2.1 0 = .ok (.iload_n 1, 1) ∧ 0 + 1 = 1 := ⟨by decide +kernel, rfl⟩
theorem q_J7_copyOf_59c91_1 : decode M_J7_copyOf_59c91.2.1 1 = .ok (.aload_n 0, 1) ∧ 1 + 1 = 2 := ⟨by decide +kernel, rfl⟩
theorem q_J7_copyOf_59c91_2 : decode M_J7_copyOf_59c91.2.1 2 = .ok (.arraylength, 1) ∧ 2 + 1 = 3 := ⟨by decide +kernel, rfl⟩
theorem q_J7_copyOf_59c91_3 : decode M_J7_copyOf_59c91.2.1 3 = .ok (.if_icmp .ne 11, 3) ∧ 3 + 3 = 6 ∧ ((3 : Nat) : Int) + 11 = ((14 : Nat) : Int) := ⟨by decide +kernel, rfl, rfl⟩
theorem q_J7_copyOf_59c91_6 : decode M_J7_copyOf_59c91.2.1 6 = .ok (.aload_n 0, 1) ∧ 6 + 1 = 7 := ⟨by decide +kernel, rfl⟩
theorem q_J7_copyOf_59c91_7 : decode M_J7_copyOf_59c91.2.1 7 = .ok (.invokevirtual 316, 3) ∧ 7 + 3 = 10 := ⟨by decide +kernel, rfl⟩
theorem q_J7_copyOf_59c91_10 : decode M_J7_copyOf_59c91.2.1 10 = .ok (.checkcast 317, 3) ∧ 10 + 3 = 13 := ⟨by decide +kernel, rfl⟩
theorem q_J7_copyOf_59c91_13 : decode M_J7_copyOf_59c91.2.1 13 = .ok (.areturn, 1) ∧ 13 + 1 = 14 := ⟨by decide +kernel, rfl⟩
theorem q_J7_copyOf_59c91_14 : decode M_J7_copyOf_59c91.2.1 14 = .ok (.iload_n 1, 1) ∧ 14 + 1 = 15 := ⟨by decide +kernel, rfl⟩
theorem q_J7_copyOf_59c91_15 : decode M_J7_copyOf_59c91.2.1 15 = .ok (.newarray .int, 2) ∧ 15 + 2 = 17 := ⟨by decide +kernel, rfl⟩
theorem q_J7_copyOf_59c91_17 : decode M_J7_copyOf_59c91.2.1 17 = .ok (.astore_n 2, 1) ∧ 17 + 1 = 18 := ⟨by decide +kernel, rfl⟩
theorem q_J7_copyOf_59c91_18 : decode M_J7_copyOf_59c91.2.1 18 = .ok (.aload_n 0, 1) ∧ 18 + 1 = 19 := ⟨by decide +kernel, rfl⟩
theorem q_J7_copyOf_59c91_19 : decode M_J7_copyOf_59c91.2.1 19 = .ok (.iconst 0, 1) ∧ 19 + 1 = 20 := ⟨by decide +kernel, rfl⟩
theorem q_J7_copyOf_59c91_20 : decode M_J7_copyOf_59c91.2.1 20 = .ok (.aload_n 2, 1) ∧ 20 + 1 = 21 := ⟨by decide +kernel, rfl⟩
theorem q_J7_copyOf_59c91_21 : decode M_J7_copyOf_59c91.2.1 21 = .ok (.iconst 0, 1) ∧ 21 + 1 = 22 := ⟨by decide +kernel, rfl⟩
theorem q_J7_copyOf_59c91_22 : decode M_J7_copyOf_59c91.2.1 22 = .ok (.aload_n 0, 1) ∧ 22 + 1 = 23 := ⟨by decide +kernel, rfl⟩
theorem q_J7_copyOf_59c91_23 : decode M_J7_copyOf_59c91.2.1 23 = .ok (.arraylength, 1) ∧ 23 + 1 = 24 := ⟨by decide +kernel, rfl⟩
theorem q_J7_copyOf_59c91_24 : decode M_J7_copyOf_59c91.2.1 24 = .ok (.iload_n 1, 1) ∧ 24 + 1 = 25 := ⟨by decide +kernel, rfl⟩
theorem q_J7_copyOf_59c91_25 : decode M_J7_copyOf_59c91.2.1 25 = .ok (.invokestatic 304, 3) ∧ 25 + 3 = 28 := ⟨by decide +kernel, rfl⟩
theorem a_RJ7_304 : Cond.methodLink RJ7 304 Lib.Math.min.name ∈ en_tbl := by decide +kernel
theorem q_J7_copyOf_59c91_28 : decode M_J7_copyOf_59c91.2.1 28 = .ok (.invokestatic 150, 3) ∧ 28 + 3 = 31 := ⟨by decide +kernel, rfl⟩
theorem a_RJ7_150 : Cond.methodLink RJ7 150 arraycopyName ∈ en_tbl := by decide +kernel
theorem q_J7_copyOf_59c91_31 : decode M_J7_copyOf_59c91.2.1 31 = .ok (.aload_n 2, 1) ∧ 31 + 1 = 32 := ⟨by decide +kernel, rfl⟩
theorem q_J7_copyOf_59c91_32 : decode M_J7_copyOf_59c91.2.1 32 = .ok (.areturn, 1) ∧ 32 + 1 = 33 := ⟨by decide +kernel, rfl⟩
