abbrev b_R_mean : ByteArray := prog_11_method_96_code
def y_R_mean : MethodName := ⟨"PassedOnAndBetterModel", "mean", "(I)J"⟩
theorem m_R_mean : MV y_R_mean b_R_mean 2 (some .long) 1 := ⟨mG 1471 (by decide +kernel) (by decide +kernel), mG 91 (by decide +kernel) (by decide +kernel), by decide +kernel⟩
theorem mi_R_mean : Cond.instanceMethod y_R_mean ∈ tbG := mG 1469 (by decide +kernel) (by decide +kernel)
theorem ms_R_mean : Cond.selects y_R_mean.cls y_R_mean y_R_mean ∈ tbG := mG 1470 (by decide +kernel) (by decide +kernel)
theorem d_R_mean_0 : decode b_R_mean 0 = .ok (.iload_n 1, 1) := by decide +kernel
theorem d_R_mean_1 : decode b_R_mean 1 = .ok (.iconst 0, 1) := by decide +kernel
theorem d_R_mean_2 : decode b_R_mean 2 = .ok (.iconst 1, 1) := by decide +kernel
theorem d_R_mean_3 : decode b_R_mean 3 = .ok (.invokestatic 98, 3) := by decide +kernel
theorem d_R_mean_6 : decode b_R_mean 6 = .ok (.ifCond .ne 10, 3) := by decide +kernel
theorem d_R_mean_9 : decode b_R_mean 9 = .ok (.aload_n 0, 1) := by decide +kernel
theorem d_R_mean_10 : decode b_R_mean 10 = .ok (.bipush (-2), 2) := by decide +kernel
theorem d_R_mean_12 : decode b_R_mean 12 = .ok (.invokevirtual 301, 3) := by decide +kernel
theorem d_R_mean_15 : decode b_R_mean 15 = .ok (.lreturn, 1) := by decide +kernel
theorem d_R_mean_16 : decode b_R_mean 16 = .ok (.aload_n 0, 1) := by decide +kernel
theorem d_R_mean_17 : decode b_R_mean 17 = .ok (.getfield 67, 3) := by decide +kernel
theorem d_R_mean_20 : decode b_R_mean 20 = .ok (.ifCond .ne 8, 3) := by decide +kernel
theorem d_R_mean_23 : decode b_R_mean 23 = .ok (.iload_n 1, 1) := by decide +kernel
theorem d_R_mean_24 : decode b_R_mean 24 = .ok (.i2l, 1) := by decide +kernel
theorem d_R_mean_25 : decode b_R_mean 25 = .ok (.goto 24, 3) := by decide +kernel
theorem d_R_mean_28 : decode b_R_mean 28 = .ok (.aload_n 0, 1) := by decide +kernel
theorem d_R_mean_29 : decode b_R_mean 29 = .ok (.getfield 25, 3) := by decide +kernel
theorem d_R_mean_32 : decode b_R_mean 32 = .ok (.aload_n 0, 1) := by decide +kernel
theorem d_R_mean_33 : decode b_R_mean 33 = .ok (.getfield 67, 3) := by decide +kernel
theorem d_R_mean_36 : decode b_R_mean 36 = .ok (.invokestatic 219, 3) := by decide +kernel
theorem d_R_mean_39 : decode b_R_mean 39 = .ok (.i2l, 1) := by decide +kernel
theorem d_R_mean_40 : decode b_R_mean 40 = .ok (.aload_n 0, 1) := by decide +kernel
theorem d_R_mean_41 : decode b_R_mean 41 = .ok (.getfield 67, 3) := by decide +kernel
theorem d_R_mean_44 : decode b_R_mean 44 = .ok (.i2l, 1) := by decide +kernel
theorem d_R_mean_45 : decode b_R_mean 45 = .ok (.iload_n 1, 1) := by decide +kernel
theorem d_R_mean_46 : decode b_R_mean 46 = .ok (.invokestatic 305, 3) := by decide +kernel
theorem d_R_mean_49 : decode b_R_mean 49 = .ok (.lreturn, 1) := by decide +kernel
abbrev b_R_meet : ByteArray := prog_11_method_97_code
def y_R_meet : MethodName := ⟨"PassedOnAndBetterModel", "meet", "(II)I"⟩
theorem m_R_meet : MV y_R_meet b_R_meet 5 (some .int) 2 := ⟨mG 1475 (by decide +kernel) (by decide +kernel), mG 91 (by decide +kernel) (by decide +kernel), by decide +kernel⟩
theorem mi_R_meet : Cond.instanceMethod y_R_meet ∈ tbG := mG 1473 (by decide +kernel) (by decide +kernel)
theorem ms_R_meet : Cond.selects y_R_meet.cls y_R_meet y_R_meet ∈ tbG := mG 1474 (by decide +kernel) (by decide +kernel)
theorem d_R_meet_0 : decode b_R_meet 0 = .ok (.aload_n 0, 1) := by decide +kernel
theorem d_R_meet_1 : decode b_R_meet 1 = .ok (.iload_n 1, 1) := by decide +kernel
theorem d_R_meet_2 : decode b_R_meet 2 = .ok (.invokevirtual 142, 3) := by decide +kernel
theorem d_R_meet_5 : decode b_R_meet 5 = .ok (.ifCond .eq 16, 3) := by decide +kernel
theorem d_R_meet_8 : decode b_R_meet 8 = .ok (.aload_n 0, 1) := by decide +kernel
theorem d_R_meet_9 : decode b_R_meet 9 = .ok (.iload_n 2, 1) := by decide +kernel
theorem d_R_meet_10 : decode b_R_meet 10 = .ok (.invokevirtual 142, 3) := by decide +kernel
theorem d_R_meet_13 : decode b_R_meet 13 = .ok (.ifCond .eq 8, 3) := by decide +kernel
theorem d_R_meet_16 : decode b_R_meet 16 = .ok (.iload_n 1, 1) := by decide +kernel
theorem d_R_meet_17 : decode b_R_meet 17 = .ok (.iload_n 2, 1) := by decide +kernel
theorem d_R_meet_18 : decode b_R_meet 18 = .ok (.if_icmp .ne 9, 3) := by decide +kernel
theorem d_R_meet_21 : decode b_R_meet 21 = .ok (.aload_n 0, 1) := by decide +kernel
theorem d_R_meet_22 : decode b_R_meet 22 = .ok (.iconst (-1), 1) := by decide +kernel
theorem d_R_meet_23 : decode b_R_meet 23 = .ok (.invokevirtual 87, 3) := by decide +kernel
theorem d_R_meet_26 : decode b_R_meet 26 = .ok (.ireturn, 1) := by decide +kernel
theorem d_R_meet_27 : decode b_R_meet 27 = .ok (.aload_n 0, 1) := by decide +kernel
theorem d_R_meet_28 : decode b_R_meet 28 = .ok (.invokevirtual 226, 3) := by decide +kernel
theorem d_R_meet_31 : decode b_R_meet 31 = .ok (.bipush (-9), 2) := by decide +kernel
theorem d_R_meet_33 : decode b_R_meet 33 = .ok (.istore_n 3, 1) := by decide +kernel
theorem d_R_meet_34 : decode b_R_meet 34 = .ok (.iconst 0, 1) := by decide +kernel
theorem d_R_meet_35 : decode b_R_meet 35 = .ok (.istore 4, 2) := by decide +kernel
theorem d_R_meet_37 : decode b_R_meet 37 = .ok (.iload 4, 2) := by decide +kernel
theorem d_R_meet_39 : decode b_R_meet 39 = .ok (.bipush 60, 2) := by decide +kernel
theorem d_R_meet_41 : decode b_R_meet 41 = .ok (.if_icmp .gt 41, 3) := by decide +kernel
theorem d_R_meet_44 : decode b_R_meet 44 = .ok (.iload_n 3, 1) := by decide +kernel
theorem d_R_meet_45 : decode b_R_meet 45 = .ok (.ifCond .ge 37, 3) := by decide +kernel
theorem d_R_meet_48 : decode b_R_meet 48 = .ok (.aload_n 0, 1) := by decide +kernel
theorem d_R_meet_49 : decode b_R_meet 49 = .ok (.getfield 31, 3) := by decide +kernel
theorem d_R_meet_52 : decode b_R_meet 52 = .ok (.iload_n 1, 1) := by decide +kernel
theorem d_R_meet_53 : decode b_R_meet 53 = .ok (.iaload, 1) := by decide +kernel
theorem d_R_meet_54 : decode b_R_meet 54 = .ok (.aload_n 0, 1) := by decide +kernel
theorem d_R_meet_55 : decode b_R_meet 55 = .ok (.getfield 31, 3) := by decide +kernel
theorem d_R_meet_58 : decode b_R_meet 58 = .ok (.iload_n 2, 1) := by decide +kernel
theorem d_R_meet_59 : decode b_R_meet 59 = .ok (.iaload, 1) := by decide +kernel
theorem d_R_meet_60 : decode b_R_meet 60 = .ok (.if_icmp .ne 8, 3) := by decide +kernel
theorem d_R_meet_63 : decode b_R_meet 63 = .ok (.iload 4, 2) := by decide +kernel
theorem d_R_meet_65 : decode b_R_meet 65 = .ok (.goto 5, 3) := by decide +kernel
theorem d_R_meet_68 : decode b_R_meet 68 = .ok (.bipush (-9), 2) := by decide +kernel
theorem d_R_meet_70 : decode b_R_meet 70 = .ok (.istore_n 3, 1) := by decide +kernel
theorem d_R_meet_71 : decode b_R_meet 71 = .ok (.aload_n 0, 1) := by decide +kernel
theorem d_R_meet_72 : decode b_R_meet 72 = .ok (.iconst 0, 1) := by decide +kernel
theorem d_R_meet_73 : decode b_R_meet 73 = .ok (.invokevirtual 209, 3) := by decide +kernel
theorem d_R_meet_76 : decode b_R_meet 76 = .ok (.iinc 4 1, 3) := by decide +kernel
theorem d_R_meet_79 : decode b_R_meet 79 = .ok (.goto (-42), 3) := by decide +kernel
theorem d_R_meet_82 : decode b_R_meet 82 = .ok (.aload_n 0, 1) := by decide +kernel
theorem d_R_meet_83 : decode b_R_meet 83 = .ok (.invokevirtual 229, 3) := by decide +kernel
theorem d_R_meet_86 : decode b_R_meet 86 = .ok (.iload_n 3, 1) := by decide +kernel
theorem d_R_meet_87 : decode b_R_meet 87 = .ok (.ireturn, 1) := by decide +kernel
abbrev b_R_bare : ByteArray := prog_11_method_98_code
def y_R_bare : MethodName := ⟨"PassedOnAndBetterModel", "bare", "(I)I"⟩
theorem m_R_bare : MV y_R_bare b_R_bare 6 (some .int) 1 := ⟨mG 1479 (by decide +kernel) (by decide +kernel), mG 91 (by decide +kernel) (by decide +kernel), by decide +kernel⟩
theorem mi_R_bare : Cond.instanceMethod y_R_bare ∈ tbG := mG 1477 (by decide +kernel) (by decide +kernel)
theorem ms_R_bare : Cond.selects y_R_bare.cls y_R_bare y_R_bare ∈ tbG := mG 1478 (by decide +kernel) (by decide +kernel)
theorem d_R_bare_0 : decode b_R_bare 0 = .ok (.iload_n 1, 1) := by decide +kernel
theorem d_R_bare_1 : decode b_R_bare 1 = .ok (.invokestatic 223, 3) := by decide +kernel
theorem d_R_bare_4 : decode b_R_bare 4 = .ok (.istore_n 2, 1) := by decide +kernel
theorem d_R_bare_5 : decode b_R_bare 5 = .ok (.iload_n 2, 1) := by decide +kernel
theorem d_R_bare_6 : decode b_R_bare 6 = .ok (.ifCond .eq 9, 3) := by decide +kernel
theorem d_R_bare_9 : decode b_R_bare 9 = .ok (.aload_n 0, 1) := by decide +kernel
theorem d_R_bare_10 : decode b_R_bare 10 = .ok (.iload_n 2, 1) := by decide +kernel
theorem d_R_bare_11 : decode b_R_bare 11 = .ok (.invokevirtual 87, 3) := by decide +kernel
theorem d_R_bare_14 : decode b_R_bare 14 = .ok (.ireturn, 1) := by decide +kernel
theorem d_R_bare_15 : decode b_R_bare 15 = .ok (.iconst 0, 1) := by decide +kernel
theorem d_R_bare_16 : decode b_R_bare 16 = .ok (.istore_n 3, 1) := by decide +kernel
theorem d_R_bare_17 : decode b_R_bare 17 = .ok (.aload_n 0, 1) := by decide +kernel
theorem d_R_bare_18 : decode b_R_bare 18 = .ok (.invokevirtual 226, 3) := by decide +kernel
theorem d_R_bare_21 : decode b_R_bare 21 = .ok (.iconst 0, 1) := by decide +kernel
theorem d_R_bare_22 : decode b_R_bare 22 = .ok (.istore 4, 2) := by decide +kernel
theorem d_R_bare_24 : decode b_R_bare 24 = .ok (.iload 4, 2) := by decide +kernel
theorem d_R_bare_26 : decode b_R_bare 26 = .ok (.iload_n 1, 1) := by decide +kernel
theorem d_R_bare_27 : decode b_R_bare 27 = .ok (.if_icmp .gt 44, 3) := by decide +kernel
theorem d_R_bare_30 : decode b_R_bare 30 = .ok (.iconst 0, 1) := by decide +kernel
theorem d_R_bare_31 : decode b_R_bare 31 = .ok (.istore 5, 2) := by decide +kernel
theorem d_R_bare_33 : decode b_R_bare 33 = .ok (.iload 5, 2) := by decide +kernel
theorem d_R_bare_35 : decode b_R_bare 35 = .ok (.aload_n 0, 1) := by decide +kernel
theorem d_R_bare_36 : decode b_R_bare 36 = .ok (.getfield 67, 3) := by decide +kernel
theorem d_R_bare_39 : decode b_R_bare 39 = .ok (.if_icmp .ge 21, 3) := by decide +kernel
theorem d_R_bare_42 : decode b_R_bare 42 = .ok (.iload_n 3, 1) := by decide +kernel
theorem d_R_bare_43 : decode b_R_bare 43 = .ok (.iconst 1, 1) := by decide +kernel
theorem d_R_bare_44 : decode b_R_bare 44 = .ok (.aload_n 0, 1) := by decide +kernel
theorem d_R_bare_45 : decode b_R_bare 45 = .ok (.getfield 31, 3) := by decide +kernel
theorem d_R_bare_48 : decode b_R_bare 48 = .ok (.iload 5, 2) := by decide +kernel
theorem d_R_bare_50 : decode b_R_bare 50 = .ok (.iaload, 1) := by decide +kernel
theorem d_R_bare_51 : decode b_R_bare 51 = .ok (.ishl, 1) := by decide +kernel
theorem d_R_bare_52 : decode b_R_bare 52 = .ok (.ior, 1) := by decide +kernel
theorem d_R_bare_53 : decode b_R_bare 53 = .ok (.istore_n 3, 1) := by decide +kernel
theorem d_R_bare_54 : decode b_R_bare 54 = .ok (.iinc 5 1, 3) := by decide +kernel
theorem d_R_bare_57 : decode b_R_bare 57 = .ok (.goto (-24), 3) := by decide +kernel
theorem d_R_bare_60 : decode b_R_bare 60 = .ok (.aload_n 0, 1) := by decide +kernel
theorem d_R_bare_61 : decode b_R_bare 61 = .ok (.iconst 0, 1) := by decide +kernel
theorem d_R_bare_62 : decode b_R_bare 62 = .ok (.invokevirtual 209, 3) := by decide +kernel
theorem d_R_bare_65 : decode b_R_bare 65 = .ok (.iinc 4 1, 3) := by decide +kernel
theorem d_R_bare_68 : decode b_R_bare 68 = .ok (.goto (-44), 3) := by decide +kernel
theorem d_R_bare_71 : decode b_R_bare 71 = .ok (.aload_n 0, 1) := by decide +kernel
theorem d_R_bare_72 : decode b_R_bare 72 = .ok (.invokevirtual 229, 3) := by decide +kernel
theorem d_R_bare_75 : decode b_R_bare 75 = .ok (.iconst 1, 1) := by decide +kernel
theorem d_R_bare_76 : decode b_R_bare 76 = .ok (.aload_n 0, 1) := by decide +kernel
theorem d_R_bare_77 : decode b_R_bare 77 = .ok (.getfield 73, 3) := by decide +kernel
theorem d_R_bare_80 : decode b_R_bare 80 = .ok (.ishl, 1) := by decide +kernel
theorem d_R_bare_81 : decode b_R_bare 81 = .ok (.iconst 1, 1) := by decide +kernel
theorem d_R_bare_82 : decode b_R_bare 82 = .ok (.isub, 1) := by decide +kernel
theorem d_R_bare_83 : decode b_R_bare 83 = .ok (.iload_n 3, 1) := by decide +kernel
theorem d_R_bare_84 : decode b_R_bare 84 = .ok (.iconst (-1), 1) := by decide +kernel
theorem d_R_bare_85 : decode b_R_bare 85 = .ok (.ixor, 1) := by decide +kernel
theorem d_R_bare_86 : decode b_R_bare 86 = .ok (.iand, 1) := by decide +kernel
theorem d_R_bare_87 : decode b_R_bare 87 = .ok (.ireturn, 1) := by decide +kernel
abbrev b_R_year : ByteArray := prog_11_method_99_code
def y_R_year : MethodName := ⟨"PassedOnAndBetterModel", "year", "()I"⟩
theorem m_R_year : MV y_R_year b_R_year 1 (some .int) 0 := ⟨mG 1483 (by decide +kernel) (by decide +kernel), mG 91 (by decide +kernel) (by decide +kernel), by decide +kernel⟩
theorem mi_R_year : Cond.instanceMethod y_R_year ∈ tbG := mG 1481 (by decide +kernel) (by decide +kernel)
theorem ms_R_year : Cond.selects y_R_year.cls y_R_year y_R_year ∈ tbG := mG 1482 (by decide +kernel) (by decide +kernel)
theorem d_R_year_0 : decode b_R_year 0 = .ok (.aload_n 0, 1) := by decide +kernel
theorem d_R_year_1 : decode b_R_year 1 = .ok (.bipush (-9), 2) := by decide +kernel
theorem d_R_year_3 : decode b_R_year 3 = .ok (.bipush 12, 2) := by decide +kernel
theorem d_R_year_5 : decode b_R_year 5 = .ok (.invokevirtual 245, 3) := by decide +kernel
theorem d_R_year_8 : decode b_R_year 8 = .ok (.aload_n 0, 1) := by decide +kernel
theorem d_R_year_9 : decode b_R_year 9 = .ok (.getfield 25, 3) := by decide +kernel
theorem d_R_year_12 : decode b_R_year 12 = .ok (.aload_n 0, 1) := by decide +kernel
theorem d_R_year_13 : decode b_R_year 13 = .ok (.getfield 67, 3) := by decide +kernel
theorem d_R_year_16 : decode b_R_year 16 = .ok (.invokestatic 219, 3) := by decide +kernel
theorem d_R_year_19 : decode b_R_year 19 = .ok (.isub, 1) := by decide +kernel
theorem d_R_year_20 : decode b_R_year 20 = .ok (.ireturn, 1) := by decide +kernel
abbrev b_R_row : ByteArray := prog_11_method_100_code
def y_R_row : MethodName := ⟨"PassedOnAndBetterModel", "row", "(I)I"⟩
theorem m_R_row : MV y_R_row b_R_row 3 (some .int) 1 := ⟨mG 1487 (by decide +kernel) (by decide +kernel), mG 91 (by decide +kernel) (by decide +kernel), by decide +kernel⟩
theorem mi_R_row : Cond.instanceMethod y_R_row ∈ tbG := mG 1485 (by decide +kernel) (by decide +kernel)
theorem ms_R_row : Cond.selects y_R_row.cls y_R_row y_R_row ∈ tbG := mG 1486 (by decide +kernel) (by decide +kernel)
theorem d_R_row_0 : decode b_R_row 0 = .ok (.iload_n 1, 1) := by decide +kernel
theorem d_R_row_1 : decode b_R_row 1 = .ok (.iconst 0, 1) := by decide +kernel
theorem d_R_row_2 : decode b_R_row 2 = .ok (.bipush 99, 2) := by decide +kernel
theorem d_R_row_4 : decode b_R_row 4 = .ok (.invokestatic 80, 3) := by decide +kernel
theorem d_R_row_7 : decode b_R_row 7 = .ok (.istore_n 2, 1) := by decide +kernel
theorem d_R_row_8 : decode b_R_row 8 = .ok (.iload_n 2, 1) := by decide +kernel
theorem d_R_row_9 : decode b_R_row 9 = .ok (.ifCond .ne 15, 3) := by decide +kernel
theorem d_R_row_12 : decode b_R_row 12 = .ok (.aload_n 0, 1) := by decide +kernel
theorem d_R_row_13 : decode b_R_row 13 = .ok (.getfield 277, 3) := by decide +kernel
theorem d_R_row_16 : decode b_R_row 16 = .ok (.bipush 12, 2) := by decide +kernel
theorem d_R_row_18 : decode b_R_row 18 = .ok (.if_icmp .ne 6, 3) := by decide +kernel
theorem d_R_row_21 : decode b_R_row 21 = .ok (.bipush (-6), 2) := by decide +kernel
theorem d_R_row_23 : decode b_R_row 23 = .ok (.istore_n 2, 1) := by decide +kernel
theorem d_R_row_24 : decode b_R_row 24 = .ok (.iload_n 2, 1) := by decide +kernel
theorem d_R_row_25 : decode b_R_row 25 = .ok (.ifCond .eq 9, 3) := by decide +kernel
theorem d_R_row_28 : decode b_R_row 28 = .ok (.aload_n 0, 1) := by decide +kernel
theorem d_R_row_29 : decode b_R_row 29 = .ok (.iload_n 2, 1) := by decide +kernel
theorem d_R_row_30 : decode b_R_row 30 = .ok (.invokevirtual 87, 3) := by decide +kernel
theorem d_R_row_33 : decode b_R_row 33 = .ok (.ireturn, 1) := by decide +kernel
theorem d_R_row_34 : decode b_R_row 34 = .ok (.aload_n 0, 1) := by decide +kernel
theorem d_R_row_35 : decode b_R_row 35 = .ok (.getfield 61, 3) := by decide +kernel
theorem d_R_row_38 : decode b_R_row 38 = .ok (.aload_n 0, 1) := by decide +kernel
theorem d_R_row_39 : decode b_R_row 39 = .ok (.getfield 277, 3) := by decide +kernel
theorem d_R_row_42 : decode b_R_row 42 = .ok (.iload_n 1, 1) := by decide +kernel
theorem d_R_row_43 : decode b_R_row 43 = .ok (.iastore, 1) := by decide +kernel
theorem d_R_row_44 : decode b_R_row 44 = .ok (.aload_n 0, 1) := by decide +kernel
theorem d_R_row_45 : decode b_R_row 45 = .ok (.dup, 1) := by decide +kernel
theorem d_R_row_46 : decode b_R_row 46 = .ok (.getfield 277, 3) := by decide +kernel
theorem d_R_row_49 : decode b_R_row 49 = .ok (.iconst 1, 1) := by decide +kernel
theorem d_R_row_50 : decode b_R_row 50 = .ok (.iadd, 1) := by decide +kernel
theorem d_R_row_51 : decode b_R_row 51 = .ok (.putfield 277, 3) := by decide +kernel
theorem d_R_row_54 : decode b_R_row 54 = .ok (.aload_n 0, 1) := by decide +kernel
theorem d_R_row_55 : decode b_R_row 55 = .ok (.getfield 277, 3) := by decide +kernel
theorem d_R_row_58 : decode b_R_row 58 = .ok (.ireturn, 1) := by decide +kernel
abbrev b_R_judge : ByteArray := prog_11_method_101_code
def y_R_judge : MethodName := ⟨"PassedOnAndBetterModel", "judge", "()I"⟩
theorem m_R_judge : MV y_R_judge b_R_judge 3 (some .int) 0 := ⟨mG 1491 (by decide +kernel) (by decide +kernel), mG 91 (by decide +kernel) (by decide +kernel), by decide +kernel⟩
theorem mi_R_judge : Cond.instanceMethod y_R_judge ∈ tbG := mG 1489 (by decide +kernel) (by decide +kernel)
theorem ms_R_judge : Cond.selects y_R_judge.cls y_R_judge y_R_judge ∈ tbG := mG 1490 (by decide +kernel) (by decide +kernel)
theorem d_R_judge_0 : decode b_R_judge 0 = .ok (.aload_n 0, 1) := by decide +kernel
theorem d_R_judge_1 : decode b_R_judge 1 = .ok (.getfield 277, 3) := by decide +kernel
theorem d_R_judge_4 : decode b_R_judge 4 = .ok (.istore_n 1, 1) := by decide +kernel
theorem d_R_judge_5 : decode b_R_judge 5 = .ok (.aload_n 0, 1) := by decide +kernel
theorem d_R_judge_6 : decode b_R_judge 6 = .ok (.iconst 0, 1) := by decide +kernel
theorem d_R_judge_7 : decode b_R_judge 7 = .ok (.putfield 277, 3) := by decide +kernel
theorem d_R_judge_10 : decode b_R_judge 10 = .ok (.iconst 0, 1) := by decide +kernel
theorem d_R_judge_11 : decode b_R_judge 11 = .ok (.istore_n 2, 1) := by decide +kernel
theorem d_R_judge_12 : decode b_R_judge 12 = .ok (.iload_n 2, 1) := by decide +kernel
theorem d_R_judge_13 : decode b_R_judge 13 = .ok (.iload_n 1, 1) := by decide +kernel
theorem d_R_judge_14 : decode b_R_judge 14 = .ok (.if_icmp .ge 34, 3) := by decide +kernel
theorem d_R_judge_17 : decode b_R_judge 17 = .ok (.iload_n 2, 1) := by decide +kernel
theorem d_R_judge_18 : decode b_R_judge 18 = .ok (.aload_n 0, 1) := by decide +kernel
theorem d_R_judge_19 : decode b_R_judge 19 = .ok (.getfield 67, 3) := by decide +kernel
theorem d_R_judge_22 : decode b_R_judge 22 = .ok (.if_icmp .ge 18, 3) := by decide +kernel
theorem d_R_judge_25 : decode b_R_judge 25 = .ok (.aload_n 0, 1) := by decide +kernel
theorem d_R_judge_26 : decode b_R_judge 26 = .ok (.getfield 31, 3) := by decide +kernel
theorem d_R_judge_29 : decode b_R_judge 29 = .ok (.iload_n 2, 1) := by decide +kernel
theorem d_R_judge_30 : decode b_R_judge 30 = .ok (.iaload, 1) := by decide +kernel
theorem d_R_judge_31 : decode b_R_judge 31 = .ok (.aload_n 0, 1) := by decide +kernel
theorem d_R_judge_32 : decode b_R_judge 32 = .ok (.getfield 61, 3) := by decide +kernel
theorem d_R_judge_35 : decode b_R_judge 35 = .ok (.iload_n 2, 1) := by decide +kernel
theorem d_R_judge_36 : decode b_R_judge 36 = .ok (.iaload, 1) := by decide +kernel
theorem d_R_judge_37 : decode b_R_judge 37 = .ok (.if_icmp .eq 5, 3) := by decide +kernel
theorem d_R_judge_40 : decode b_R_judge 40 = .ok (.iload_n 2, 1) := by decide +kernel
theorem d_R_judge_41 : decode b_R_judge 41 = .ok (.ireturn, 1) := by decide +kernel
theorem d_R_judge_42 : decode b_R_judge 42 = .ok (.iinc 2 1, 3) := by decide +kernel
theorem d_R_judge_45 : decode b_R_judge 45 = .ok (.goto (-33), 3) := by decide +kernel
theorem d_R_judge_48 : decode b_R_judge 48 = .ok (.bipush (-9), 2) := by decide +kernel
theorem d_R_judge_50 : decode b_R_judge 50 = .ok (.ireturn, 1) := by decide +kernel
abbrev b_R_clear : ByteArray := prog_11_method_102_code
def y_R_clear : MethodName := ⟨"PassedOnAndBetterModel", "clear", "()I"⟩
theorem m_R_clear : MV y_R_clear b_R_clear 2 (some .int) 0 := ⟨mG 1495 (by decide +kernel) (by decide +kernel), mG 91 (by decide +kernel) (by decide +kernel), by decide +kernel⟩
theorem mi_R_clear : Cond.instanceMethod y_R_clear ∈ tbG := mG 1493 (by decide +kernel) (by decide +kernel)
theorem ms_R_clear : Cond.selects y_R_clear.cls y_R_clear y_R_clear ∈ tbG := mG 1494 (by decide +kernel) (by decide +kernel)
theorem d_R_clear_0 : decode b_R_clear 0 = .ok (.aload_n 0, 1) := by decide +kernel
theorem d_R_clear_1 : decode b_R_clear 1 = .ok (.getfield 277, 3) := by decide +kernel
theorem d_R_clear_4 : decode b_R_clear 4 = .ok (.istore_n 1, 1) := by decide +kernel
theorem d_R_clear_5 : decode b_R_clear 5 = .ok (.aload_n 0, 1) := by decide +kernel
theorem d_R_clear_6 : decode b_R_clear 6 = .ok (.iconst 0, 1) := by decide +kernel
theorem d_R_clear_7 : decode b_R_clear 7 = .ok (.putfield 277, 3) := by decide +kernel
theorem d_R_clear_10 : decode b_R_clear 10 = .ok (.iload_n 1, 1) := by decide +kernel
theorem d_R_clear_11 : decode b_R_clear 11 = .ok (.ireturn, 1) := by decide +kernel
abbrev b_R_draw : ByteArray := prog_11_method_103_code
def y_R_draw : MethodName := ⟨"PassedOnAndBetterModel", "draw", "(I)I"⟩
theorem m_R_draw : MV y_R_draw b_R_draw 2 (some .int) 1 := ⟨mG 1503 (by decide +kernel) (by decide +kernel), mG 91 (by decide +kernel) (by decide +kernel), by decide +kernel⟩
theorem mi_R_draw : Cond.instanceMethod y_R_draw ∈ tbG := mG 1502 (by decide +kernel) (by decide +kernel)
theorem ms_R_draw : Cond.selects y_R_draw.cls y_R_draw y_R_draw ∈ tbG := mG 81 (by decide +kernel) (by decide +kernel)
theorem d_R_draw_0 : decode b_R_draw 0 = .ok (.aload_n 0, 1) := by decide +kernel
theorem d_R_draw_1 : decode b_R_draw 1 = .ok (.aload_n 0, 1) := by decide +kernel
theorem d_R_draw_2 : decode b_R_draw 2 = .ok (.getfield 309, 3) := by decide +kernel
theorem d_R_draw_5 : decode b_R_draw 5 = .ok (.ldc_w 312, 3) := by decide +kernel
theorem d_R_draw_8 : decode b_R_draw 8 = .ok (.imul, 1) := by decide +kernel
theorem d_R_draw_9 : decode b_R_draw 9 = .ok (.sipush 12345, 3) := by decide +kernel
theorem d_R_draw_12 : decode b_R_draw 12 = .ok (.iadd, 1) := by decide +kernel
theorem d_R_draw_13 : decode b_R_draw 13 = .ok (.putfield 309, 3) := by decide +kernel
theorem d_R_draw_16 : decode b_R_draw 16 = .ok (.aload_n 0, 1) := by decide +kernel
theorem d_R_draw_17 : decode b_R_draw 17 = .ok (.getfield 309, 3) := by decide +kernel
theorem d_R_draw_20 : decode b_R_draw 20 = .ok (.ldc_w 313, 3) := by decide +kernel
theorem d_R_draw_23 : decode b_R_draw 23 = .ok (.iand, 1) := by decide +kernel
theorem d_R_draw_24 : decode b_R_draw 24 = .ok (.ldc_w 314, 3) := by decide +kernel
theorem d_R_draw_27 : decode b_R_draw 27 = .ok (.idiv, 1) := by decide +kernel
theorem d_R_draw_28 : decode b_R_draw 28 = .ok (.iload_n 1, 1) := by decide +kernel
theorem d_R_draw_29 : decode b_R_draw 29 = .ok (.irem, 1) := by decide +kernel
theorem d_R_draw_30 : decode b_R_draw 30 = .ok (.ireturn, 1) := by decide +kernel
abbrev b_R_lots : ByteArray := prog_11_method_104_code
def y_R_lots : MethodName := ⟨"PassedOnAndBetterModel", "lots", "(III)I"⟩
theorem m_R_lots : MV y_R_lots b_R_lots 10 (some .int) 3 := ⟨mG 1499 (by decide +kernel) (by decide +kernel), mG 91 (by decide +kernel) (by decide +kernel), by decide +kernel⟩
theorem mi_R_lots : Cond.instanceMethod y_R_lots ∈ tbG := mG 1497 (by decide +kernel) (by decide +kernel)
theorem ms_R_lots : Cond.selects y_R_lots.cls y_R_lots y_R_lots ∈ tbG := mG 1498 (by decide +kernel) (by decide +kernel)
theorem d_R_lots_0 : decode b_R_lots 0 = .ok (.iload_n 1, 1) := by decide +kernel
theorem d_R_lots_1 : decode b_R_lots 1 = .ok (.iconst 1, 1) := by decide +kernel
theorem d_R_lots_2 : decode b_R_lots 2 = .ok (.bipush 20, 2) := by decide +kernel
theorem d_R_lots_4 : decode b_R_lots 4 = .ok (.invokestatic 80, 3) := by decide +kernel
theorem d_R_lots_7 : decode b_R_lots 7 = .ok (.istore 4, 2) := by decide +kernel
theorem d_R_lots_9 : decode b_R_lots 9 = .ok (.iload 4, 2) := by decide +kernel
theorem d_R_lots_11 : decode b_R_lots 11 = .ok (.ifCond .ne 16, 3) := by decide +kernel
theorem d_R_lots_14 : decode b_R_lots 14 = .ok (.iload_n 3, 1) := by decide +kernel
theorem d_R_lots_15 : decode b_R_lots 15 = .ok (.iconst 0, 1) := by decide +kernel
theorem d_R_lots_16 : decode b_R_lots 16 = .ok (.iconst 1, 1) := by decide +kernel
theorem d_R_lots_17 : decode b_R_lots 17 = .ok (.invokestatic 98, 3) := by decide +kernel
theorem d_R_lots_20 : decode b_R_lots 20 = .ok (.ifCond .ne 7, 3) := by decide +kernel
theorem d_R_lots_23 : decode b_R_lots 23 = .ok (.bipush (-2), 2) := by decide +kernel
theorem d_R_lots_25 : decode b_R_lots 25 = .ok (.istore 4, 2) := by decide +kernel
theorem d_R_lots_27 : decode b_R_lots 27 = .ok (.iload 4, 2) := by decide +kernel
theorem d_R_lots_29 : decode b_R_lots 29 = .ok (.ifCond .eq 10, 3) := by decide +kernel
theorem d_R_lots_32 : decode b_R_lots 32 = .ok (.aload_n 0, 1) := by decide +kernel
theorem d_R_lots_33 : decode b_R_lots 33 = .ok (.iload 4, 2) := by decide +kernel
theorem d_R_lots_35 : decode b_R_lots 35 = .ok (.invokevirtual 87, 3) := by decide +kernel
theorem d_R_lots_38 : decode b_R_lots 38 = .ok (.ireturn, 1) := by decide +kernel
theorem d_R_lots_39 : decode b_R_lots 39 = .ok (.aload_n 0, 1) := by decide +kernel
theorem d_R_lots_40 : decode b_R_lots 40 = .ok (.getfield 73, 3) := by decide +kernel
theorem d_R_lots_43 : decode b_R_lots 43 = .ok (.ifCond .ne 5, 3) := by decide +kernel
theorem d_R_lots_46 : decode b_R_lots 46 = .ok (.iconst 0, 1) := by decide +kernel
theorem d_R_lots_47 : decode b_R_lots 47 = .ok (.ireturn, 1) := by decide +kernel
theorem d_R_lots_48 : decode b_R_lots 48 = .ok (.aload_n 0, 1) := by decide +kernel
theorem d_R_lots_49 : decode b_R_lots 49 = .ok (.iload_n 2, 1) := by decide +kernel
theorem d_R_lots_50 : decode b_R_lots 50 = .ok (.putfield 309, 3) := by decide +kernel
theorem d_R_lots_53 : decode b_R_lots 53 = .ok (.iconst 0, 1) := by decide +kernel
theorem d_R_lots_54 : decode b_R_lots 54 = .ok (.istore 5, 2) := by decide +kernel
theorem d_R_lots_56 : decode b_R_lots 56 = .ok (.iconst 0, 1) := by decide +kernel
theorem d_R_lots_57 : decode b_R_lots 57 = .ok (.istore 6, 2) := by decide +kernel
theorem d_R_lots_59 : decode b_R_lots 59 = .ok (.iload 6, 2) := by decide +kernel
theorem d_R_lots_61 : decode b_R_lots 61 = .ok (.iload_n 1, 1) := by decide +kernel
theorem d_R_lots_62 : decode b_R_lots 62 = .ok (.if_icmp .ge 140, 3) := by decide +kernel
theorem d_R_lots_65 : decode b_R_lots 65 = .ok (.aload_n 0, 1) := by decide +kernel
theorem d_R_lots_66 : decode b_R_lots 66 = .ok (.invokevirtual 226, 3) := by decide +kernel
theorem d_R_lots_69 : decode b_R_lots 69 = .ok (.iload_n 3, 1) := by decide +kernel
theorem d_R_lots_70 : decode b_R_lots 70 = .ok (.ifCond .ne 17, 3) := by decide +kernel
theorem d_R_lots_73 : decode b_R_lots 73 = .ok (.aload_n 0, 1) := by decide +kernel
theorem d_R_lots_74 : decode b_R_lots 74 = .ok (.getfield 25, 3) := by decide +kernel
theorem d_R_lots_77 : decode b_R_lots 77 = .ok (.aload_n 0, 1) := by decide +kernel
theorem d_R_lots_78 : decode b_R_lots 78 = .ok (.getfield 67, 3) := by decide +kernel
theorem d_R_lots_81 : decode b_R_lots 81 = .ok (.invokestatic 219, 3) := by decide +kernel
theorem d_R_lots_84 : decode b_R_lots 84 = .ok (.goto 14, 3) := by decide +kernel
theorem d_R_lots_87 : decode b_R_lots 87 = .ok (.aload_n 0, 1) := by decide +kernel
theorem d_R_lots_88 : decode b_R_lots 88 = .ok (.getfield 40, 3) := by decide +kernel
theorem d_R_lots_91 : decode b_R_lots 91 = .ok (.aload_n 0, 1) := by decide +kernel
theorem d_R_lots_92 : decode b_R_lots 92 = .ok (.getfield 67, 3) := by decide +kernel
theorem d_R_lots_95 : decode b_R_lots 95 = .ok (.invokestatic 219, 3) := by decide +kernel
theorem d_R_lots_98 : decode b_R_lots 98 = .ok (.istore 7, 2) := by decide +kernel
theorem d_R_lots_100 : decode b_R_lots 100 = .ok (.iconst 0, 1) := by decide +kernel
theorem d_R_lots_101 : decode b_R_lots 101 = .ok (.istore 8, 2) := by decide +kernel
theorem d_R_lots_103 : decode b_R_lots 103 = .ok (.iload 8, 2) := by decide +kernel
theorem d_R_lots_105 : decode b_R_lots 105 = .ok (.aload_n 0, 1) := by decide +kernel
theorem d_R_lots_106 : decode b_R_lots 106 = .ok (.getfield 73, 3) := by decide +kernel
theorem d_R_lots_109 : decode b_R_lots 109 = .ok (.if_icmp .ge 40, 3) := by decide +kernel
theorem d_R_lots_112 : decode b_R_lots 112 = .ok (.aload_n 0, 1) := by decide +kernel
theorem d_R_lots_113 : decode b_R_lots 113 = .ok (.aload_n 0, 1) := by decide +kernel
theorem d_R_lots_114 : decode b_R_lots 114 = .ok (.getfield 73, 3) := by decide +kernel
theorem d_R_lots_117 : decode b_R_lots 117 = .ok (.invokevirtual 315, 3) := by decide +kernel
theorem d_R_lots_120 : decode b_R_lots 120 = .ok (.istore 9, 2) := by decide +kernel
theorem d_R_lots_122 : decode b_R_lots 122 = .ok (.aload_n 0, 1) := by decide +kernel
theorem d_R_lots_123 : decode b_R_lots 123 = .ok (.getfield 22, 3) := by decide +kernel
theorem d_R_lots_126 : decode b_R_lots 126 = .ok (.iload 8, 2) := by decide +kernel
theorem d_R_lots_128 : decode b_R_lots 128 = .ok (.iload 9, 2) := by decide +kernel
theorem d_R_lots_130 : decode b_R_lots 130 = .ok (.iload 8, 2) := by decide +kernel
theorem d_R_lots_132 : decode b_R_lots 132 = .ok (.if_icmp .ne 8, 3) := by decide +kernel
theorem d_R_lots_135 : decode b_R_lots 135 = .ok (.bipush (-9), 2) := by decide +kernel
theorem d_R_lots_137 : decode b_R_lots 137 = .ok (.goto 5, 3) := by decide +kernel
theorem d_R_lots_140 : decode b_R_lots 140 = .ok (.iload 9, 2) := by decide +kernel
theorem d_R_lots_142 : decode b_R_lots 142 = .ok (.iastore, 1) := by decide +kernel
theorem d_R_lots_143 : decode b_R_lots 143 = .ok (.iinc 8 1, 3) := by decide +kernel
theorem d_R_lots_146 : decode b_R_lots 146 = .ok (.goto (-43), 3) := by decide +kernel
theorem d_R_lots_149 : decode b_R_lots 149 = .ok (.aload_n 0, 1) := by decide +kernel
theorem d_R_lots_150 : decode b_R_lots 150 = .ok (.bipush 24, 2) := by decide +kernel
theorem d_R_lots_152 : decode b_R_lots 152 = .ok (.invokevirtual 129, 3) := by decide +kernel
theorem d_R_lots_155 : decode b_R_lots 155 = .ok (.iload 5, 2) := by decide +kernel
theorem d_R_lots_157 : decode b_R_lots 157 = .ok (.iload_n 3, 1) := by decide +kernel
theorem d_R_lots_158 : decode b_R_lots 158 = .ok (.ifCond .ne 17, 3) := by decide +kernel
theorem d_R_lots_161 : decode b_R_lots 161 = .ok (.aload_n 0, 1) := by decide +kernel
theorem d_R_lots_162 : decode b_R_lots 162 = .ok (.getfield 25, 3) := by decide +kernel
theorem d_R_lots_165 : decode b_R_lots 165 = .ok (.aload_n 0, 1) := by decide +kernel
theorem d_R_lots_166 : decode b_R_lots 166 = .ok (.getfield 67, 3) := by decide +kernel
theorem d_R_lots_169 : decode b_R_lots 169 = .ok (.invokestatic 219, 3) := by decide +kernel
theorem d_R_lots_172 : decode b_R_lots 172 = .ok (.goto 14, 3) := by decide +kernel
theorem d_R_lots_175 : decode b_R_lots 175 = .ok (.aload_n 0, 1) := by decide +kernel
theorem d_R_lots_176 : decode b_R_lots 176 = .ok (.getfield 40, 3) := by decide +kernel
theorem d_R_lots_179 : decode b_R_lots 179 = .ok (.aload_n 0, 1) := by decide +kernel
theorem d_R_lots_180 : decode b_R_lots 180 = .ok (.getfield 67, 3) := by decide +kernel
theorem d_R_lots_183 : decode b_R_lots 183 = .ok (.invokestatic 219, 3) := by decide +kernel
theorem d_R_lots_186 : decode b_R_lots 186 = .ok (.iload 7, 2) := by decide +kernel
theorem d_R_lots_188 : decode b_R_lots 188 = .ok (.isub, 1) := by decide +kernel
theorem d_R_lots_189 : decode b_R_lots 189 = .ok (.iadd, 1) := by decide +kernel
theorem d_R_lots_190 : decode b_R_lots 190 = .ok (.istore 5, 2) := by decide +kernel
theorem d_R_lots_192 : decode b_R_lots 192 = .ok (.aload_n 0, 1) := by decide +kernel
theorem d_R_lots_193 : decode b_R_lots 193 = .ok (.invokevirtual 229, 3) := by decide +kernel
theorem d_R_lots_196 : decode b_R_lots 196 = .ok (.iinc 6 1, 3) := by decide +kernel
theorem d_R_lots_199 : decode b_R_lots 199 = .ok (.goto (-140), 3) := by decide +kernel
theorem d_R_lots_202 : decode b_R_lots 202 = .ok (.iload 5, 2) := by decide +kernel
theorem d_R_lots_204 : decode b_R_lots 204 = .ok (.ireturn, 1) := by decide +kernel
abbrev b_R_count : ByteArray := prog_11_method_105_code
def y_R_count : MethodName := ⟨"PassedOnAndBetterModel", "count", "(I)I"⟩
theorem m_R_count : MV y_R_count b_R_count 2 (some .int) 1 := ⟨mG 1510 (by decide +kernel) (by decide +kernel), mG 91 (by decide +kernel) (by decide +kernel), by decide +kernel⟩
theorem mi_R_count : Cond.instanceMethod y_R_count ∈ tbG := mG 1508 (by decide +kernel) (by decide +kernel)
theorem ms_R_count : Cond.selects y_R_count.cls y_R_count y_R_count ∈ tbG := mG 1509 (by decide +kernel) (by decide +kernel)
theorem d_R_count_0 : decode b_R_count 0 = .ok (.iload_n 1, 1) := by decide +kernel
theorem d_R_count_1 : decode b_R_count 1 = .ok (.bipush 11, 2) := by decide +kernel
theorem d_R_count_3 : decode b_R_count 3 = .ok (.bipush 16, 2) := by decide +kernel
theorem d_R_count_5 : decode b_R_count 5 = .ok (.invokestatic 98, 3) := by decide +kernel
theorem d_R_count_8 : decode b_R_count 8 = .ok (.ifCond .eq 13, 3) := by decide +kernel
theorem d_R_count_11 : decode b_R_count 11 = .ok (.aload_n 0, 1) := by decide +kernel
theorem d_R_count_12 : decode b_R_count 12 = .ok (.getfield 7, 3) := by decide +kernel
theorem d_R_count_15 : decode b_R_count 15 = .ok (.iload_n 1, 1) := by decide +kernel
theorem d_R_count_16 : decode b_R_count 16 = .ok (.bipush 10, 2) := by decide +kernel
theorem d_R_count_18 : decode b_R_count 18 = .ok (.isub, 1) := by decide +kernel
theorem d_R_count_19 : decode b_R_count 19 = .ok (.iaload, 1) := by decide +kernel
theorem d_R_count_20 : decode b_R_count 20 = .ok (.ireturn, 1) := by decide +kernel
theorem d_R_count_21 : decode b_R_count 21 = .ok (.iload_n 1, 1) := by decide +kernel
theorem d_R_count_22 : decode b_R_count 22 = .ok (.tableswitch 116 0 8 #[50, 55, 60, 65, 77, 89, 101, 106, 111], 50) := by decide +kernel
theorem d_R_count_72 : decode b_R_count 72 = .ok (.aload_n 0, 1) := by decide +kernel
theorem d_R_count_73 : decode b_R_count 73 = .ok (.getfield 73, 3) := by decide +kernel
theorem d_R_count_76 : decode b_R_count 76 = .ok (.ireturn, 1) := by decide +kernel
theorem d_R_count_77 : decode b_R_count 77 = .ok (.aload_n 0, 1) := by decide +kernel
theorem d_R_count_78 : decode b_R_count 78 = .ok (.getfield 67, 3) := by decide +kernel
theorem d_R_count_81 : decode b_R_count 81 = .ok (.ireturn, 1) := by decide +kernel
theorem d_R_count_82 : decode b_R_count 82 = .ok (.aload_n 0, 1) := by decide +kernel
theorem d_R_count_83 : decode b_R_count 83 = .ok (.getfield 126, 3) := by decide +kernel
theorem d_R_count_86 : decode b_R_count 86 = .ok (.ireturn, 1) := by decide +kernel
theorem d_R_count_87 : decode b_R_count 87 = .ok (.aload_n 0, 1) := by decide +kernel
theorem d_R_count_88 : decode b_R_count 88 = .ok (.getfield 25, 3) := by decide +kernel
theorem d_R_count_91 : decode b_R_count 91 = .ok (.aload_n 0, 1) := by decide +kernel
theorem d_R_count_92 : decode b_R_count 92 = .ok (.getfield 67, 3) := by decide +kernel
theorem d_R_count_95 : decode b_R_count 95 = .ok (.invokestatic 219, 3) := by decide +kernel
theorem d_R_count_98 : decode b_R_count 98 = .ok (.ireturn, 1) := by decide +kernel
theorem d_R_count_99 : decode b_R_count 99 = .ok (.aload_n 0, 1) := by decide +kernel
theorem d_R_count_100 : decode b_R_count 100 = .ok (.getfield 28, 3) := by decide +kernel
theorem d_R_count_103 : decode b_R_count 103 = .ok (.aload_n 0, 1) := by decide +kernel
theorem d_R_count_104 : decode b_R_count 104 = .ok (.getfield 67, 3) := by decide +kernel
theorem d_R_count_107 : decode b_R_count 107 = .ok (.invokestatic 219, 3) := by decide +kernel
theorem d_R_count_110 : decode b_R_count 110 = .ok (.ireturn, 1) := by decide +kernel
theorem d_R_count_111 : decode b_R_count 111 = .ok (.aload_n 0, 1) := by decide +kernel
theorem d_R_count_112 : decode b_R_count 112 = .ok (.getfield 40, 3) := by decide +kernel
theorem d_R_count_115 : decode b_R_count 115 = .ok (.aload_n 0, 1) := by decide +kernel
theorem d_R_count_116 : decode b_R_count 116 = .ok (.getfield 67, 3) := by decide +kernel
theorem d_R_count_119 : decode b_R_count 119 = .ok (.invokestatic 219, 3) := by decide +kernel
theorem d_R_count_122 : decode b_R_count 122 = .ok (.ireturn, 1) := by decide +kernel
theorem d_R_count_123 : decode b_R_count 123 = .ok (.aload_n 0, 1) := by decide +kernel
theorem d_R_count_124 : decode b_R_count 124 = .ok (.getfield 84, 3) := by decide +kernel
theorem d_R_count_127 : decode b_R_count 127 = .ok (.ireturn, 1) := by decide +kernel
theorem d_R_count_128 : decode b_R_count 128 = .ok (.aload_n 0, 1) := by decide +kernel
theorem d_R_count_129 : decode b_R_count 129 = .ok (.getfield 277, 3) := by decide +kernel
theorem d_R_count_132 : decode b_R_count 132 = .ok (.ireturn, 1) := by decide +kernel
theorem d_R_count_133 : decode b_R_count 133 = .ok (.aload_n 0, 1) := by decide +kernel
theorem d_R_count_134 : decode b_R_count 134 = .ok (.getfield 162, 3) := by decide +kernel
theorem d_R_count_137 : decode b_R_count 137 = .ok (.ireturn, 1) := by decide +kernel
theorem d_R_count_138 : decode b_R_count 138 = .ok (.bipush (-9), 2) := by decide +kernel
theorem d_R_count_140 : decode b_R_count 140 = .ok (.ireturn, 1) := by decide +kernel
