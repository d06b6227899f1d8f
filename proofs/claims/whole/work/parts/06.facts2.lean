abbrev b_P_remember : ByteArray := prog_9_method_3_code
def y_P_remember : MethodName := ⟨"PassedOnAndBetter$Past", "remember", "(LPassedOnAndBetter$Company;)V"⟩
theorem m_P_remember : MV y_P_remember b_P_remember 3 none 1 := ⟨mG 588 (by decide +kernel) (by decide +kernel), mG 87 (by decide +kernel) (by decide +kernel), by decide +kernel⟩
theorem mi_P_remember : Cond.instanceMethod y_P_remember ∈ tbG := mG 586 (by decide +kernel) (by decide +kernel)
theorem ms_P_remember : Cond.selects y_P_remember.cls y_P_remember y_P_remember ∈ tbG := mG 587 (by decide +kernel) (by decide +kernel)
theorem d_P_remember_0 : decode b_P_remember 0 = .ok (.aload_n 0, 1) := by decide +kernel
theorem d_P_remember_1 : decode b_P_remember 1 = .ok (.getfield 20, 3) := by decide +kernel
theorem d_P_remember_4 : decode b_P_remember 4 = .ok (.bipush 8, 2) := by decide +kernel
theorem d_P_remember_6 : decode b_P_remember 6 = .ok (.if_icmp .ne 26, 3) := by decide +kernel
theorem d_P_remember_9 : decode b_P_remember 9 = .ok (.aload_n 0, 1) := by decide +kernel
theorem d_P_remember_10 : decode b_P_remember 10 = .ok (.aload_n 0, 1) := by decide +kernel
theorem d_P_remember_11 : decode b_P_remember 11 = .ok (.getfield 16, 3) := by decide +kernel
theorem d_P_remember_14 : decode b_P_remember 14 = .ok (.iconst 1, 1) := by decide +kernel
theorem d_P_remember_15 : decode b_P_remember 15 = .ok (.iadd, 1) := by decide +kernel
theorem d_P_remember_16 : decode b_P_remember 16 = .ok (.bipush 8, 2) := by decide +kernel
theorem d_P_remember_18 : decode b_P_remember 18 = .ok (.irem, 1) := by decide +kernel
theorem d_P_remember_19 : decode b_P_remember 19 = .ok (.putfield 16, 3) := by decide +kernel
theorem d_P_remember_22 : decode b_P_remember 22 = .ok (.aload_n 0, 1) := by decide +kernel
theorem d_P_remember_23 : decode b_P_remember 23 = .ok (.dup, 1) := by decide +kernel
theorem d_P_remember_24 : decode b_P_remember 24 = .ok (.getfield 20, 3) := by decide +kernel
theorem d_P_remember_27 : decode b_P_remember 27 = .ok (.iconst 1, 1) := by decide +kernel
theorem d_P_remember_28 : decode b_P_remember 28 = .ok (.isub, 1) := by decide +kernel
theorem d_P_remember_29 : decode b_P_remember 29 = .ok (.putfield 20, 3) := by decide +kernel
theorem d_P_remember_32 : decode b_P_remember 32 = .ok (.aload_n 0, 1) := by decide +kernel
theorem d_P_remember_33 : decode b_P_remember 33 = .ok (.aload_n 0, 1) := by decide +kernel
theorem d_P_remember_34 : decode b_P_remember 34 = .ok (.getfield 20, 3) := by decide +kernel
theorem d_P_remember_37 : decode b_P_remember 37 = .ok (.invokevirtual 23, 3) := by decide +kernel
theorem d_P_remember_40 : decode b_P_remember 40 = .ok (.astore_n 2, 1) := by decide +kernel
theorem d_P_remember_41 : decode b_P_remember 41 = .ok (.aload_n 2, 1) := by decide +kernel
theorem d_P_remember_42 : decode b_P_remember 42 = .ok (.ifnull 8, 3) := by decide +kernel
theorem d_P_remember_45 : decode b_P_remember 45 = .ok (.aload_n 2, 1) := by decide +kernel
theorem d_P_remember_46 : decode b_P_remember 46 = .ok (.aload_n 1, 1) := by decide +kernel
theorem d_P_remember_47 : decode b_P_remember 47 = .ok (.invokevirtual 27, 3) := by decide +kernel
theorem d_P_remember_50 : decode b_P_remember 50 = .ok (.aload_n 0, 1) := by decide +kernel
theorem d_P_remember_51 : decode b_P_remember 51 = .ok (.dup, 1) := by decide +kernel
theorem d_P_remember_52 : decode b_P_remember 52 = .ok (.getfield 20, 3) := by decide +kernel
theorem d_P_remember_55 : decode b_P_remember 55 = .ok (.iconst 1, 1) := by decide +kernel
theorem d_P_remember_56 : decode b_P_remember 56 = .ok (.iadd, 1) := by decide +kernel
theorem d_P_remember_57 : decode b_P_remember 57 = .ok (.putfield 20, 3) := by decide +kernel
theorem d_P_remember_60 : decode b_P_remember 60 = .ok (.return_, 1) := by decide +kernel
abbrev b_X_nexts : ByteArray := prog_1_method_8_code
def y_X_nexts : MethodName := ⟨"PassedOnAndBetter", "nexts", "(II)I"⟩
theorem m_X_nexts : MV y_X_nexts b_X_nexts 4 (some .int) 2 := ⟨mG 580 (by decide +kernel) (by decide +kernel), mG 83 (by decide +kernel) (by decide +kernel), by decide +kernel⟩
theorem mi_X_nexts : Cond.instanceMethod y_X_nexts ∈ tbG := mG 578 (by decide +kernel) (by decide +kernel)
theorem ms_X_nexts : Cond.selects y_X_nexts.cls y_X_nexts y_X_nexts ∈ tbG := mG 579 (by decide +kernel) (by decide +kernel)
theorem d_X_nexts_0 : decode b_X_nexts 0 = .ok (.aload_n 0, 1) := by decide +kernel
theorem d_X_nexts_1 : decode b_X_nexts 1 = .ok (.iload_n 1, 1) := by decide +kernel
theorem d_X_nexts_2 : decode b_X_nexts 2 = .ok (.iload_n 2, 1) := by decide +kernel
theorem d_X_nexts_3 : decode b_X_nexts 3 = .ok (.invokevirtual 134, 3) := by decide +kernel
theorem d_X_nexts_6 : decode b_X_nexts 6 = .ok (.istore_n 3, 1) := by decide +kernel
theorem d_X_nexts_7 : decode b_X_nexts 7 = .ok (.iload_n 3, 1) := by decide +kernel
theorem d_X_nexts_8 : decode b_X_nexts 8 = .ok (.ifCond .eq 9, 3) := by decide +kernel
theorem d_X_nexts_11 : decode b_X_nexts 11 = .ok (.aload_n 0, 1) := by decide +kernel
theorem d_X_nexts_12 : decode b_X_nexts 12 = .ok (.iload_n 3, 1) := by decide +kernel
theorem d_X_nexts_13 : decode b_X_nexts 13 = .ok (.invokevirtual 69, 3) := by decide +kernel
theorem d_X_nexts_16 : decode b_X_nexts 16 = .ok (.ireturn, 1) := by decide +kernel
theorem d_X_nexts_17 : decode b_X_nexts 17 = .ok (.aload_n 0, 1) := by decide +kernel
theorem d_X_nexts_18 : decode b_X_nexts 18 = .ok (.getfield 22, 3) := by decide +kernel
theorem d_X_nexts_21 : decode b_X_nexts 21 = .ok (.aload_n 0, 1) := by decide +kernel
theorem d_X_nexts_22 : decode b_X_nexts 22 = .ok (.getfield 10, 3) := by decide +kernel
theorem d_X_nexts_25 : decode b_X_nexts 25 = .ok (.invokevirtual 137, 3) := by decide +kernel
theorem d_X_nexts_28 : decode b_X_nexts 28 = .ok (.aload_n 0, 1) := by decide +kernel
theorem d_X_nexts_29 : decode b_X_nexts 29 = .ok (.getfield 10, 3) := by decide +kernel
theorem d_X_nexts_32 : decode b_X_nexts 32 = .ok (.iload_n 1, 1) := by decide +kernel
theorem d_X_nexts_33 : decode b_X_nexts 33 = .ok (.iload_n 2, 1) := by decide +kernel
theorem d_X_nexts_34 : decode b_X_nexts 34 = .ok (.invokevirtual 140, 3) := by decide +kernel
theorem d_X_nexts_37 : decode b_X_nexts 37 = .ok (.ireturn, 1) := by decide +kernel
abbrev b_X_doors : ByteArray := prog_1_method_9_code
def y_X_doors : MethodName := ⟨"PassedOnAndBetter", "doors", "(II)I"⟩
theorem m_X_doors : MV y_X_doors b_X_doors 6 (some .int) 2 := ⟨mG 598 (by decide +kernel) (by decide +kernel), mG 83 (by decide +kernel) (by decide +kernel), by decide +kernel⟩
theorem mi_X_doors : Cond.instanceMethod y_X_doors ∈ tbG := mG 596 (by decide +kernel) (by decide +kernel)
theorem ms_X_doors : Cond.selects y_X_doors.cls y_X_doors y_X_doors ∈ tbG := mG 597 (by decide +kernel) (by decide +kernel)
theorem d_X_doors_0 : decode b_X_doors 0 = .ok (.aload_n 0, 1) := by decide +kernel
theorem d_X_doors_1 : decode b_X_doors 1 = .ok (.iload_n 1, 1) := by decide +kernel
theorem d_X_doors_2 : decode b_X_doors 2 = .ok (.invokevirtual 90, 3) := by decide +kernel
theorem d_X_doors_5 : decode b_X_doors 5 = .ok (.iload_n 2, 1) := by decide +kernel
theorem d_X_doors_6 : decode b_X_doors 6 = .ok (.iconst 1, 1) := by decide +kernel
theorem d_X_doors_7 : decode b_X_doors 7 = .ok (.bipush 99, 2) := by decide +kernel
theorem d_X_doors_9 : decode b_X_doors 9 = .ok (.invokestatic 57, 3) := by decide +kernel
theorem d_X_doors_12 : decode b_X_doors 12 = .ok (.iconst 0, 1) := by decide +kernel
theorem d_X_doors_13 : decode b_X_doors 13 = .ok (.invokestatic 97, 3) := by decide +kernel
theorem d_X_doors_16 : decode b_X_doors 16 = .ok (.istore_n 3, 1) := by decide +kernel
theorem d_X_doors_17 : decode b_X_doors 17 = .ok (.iload_n 3, 1) := by decide +kernel
theorem d_X_doors_18 : decode b_X_doors 18 = .ok (.ifCond .eq 9, 3) := by decide +kernel
theorem d_X_doors_21 : decode b_X_doors 21 = .ok (.aload_n 0, 1) := by decide +kernel
theorem d_X_doors_22 : decode b_X_doors 22 = .ok (.iload_n 3, 1) := by decide +kernel
theorem d_X_doors_23 : decode b_X_doors 23 = .ok (.invokevirtual 69, 3) := by decide +kernel
theorem d_X_doors_26 : decode b_X_doors 26 = .ok (.ireturn, 1) := by decide +kernel
theorem d_X_doors_27 : decode b_X_doors 27 = .ok (.aload_n 0, 1) := by decide +kernel
theorem d_X_doors_28 : decode b_X_doors 28 = .ok (.getfield 22, 3) := by decide +kernel
theorem d_X_doors_31 : decode b_X_doors 31 = .ok (.aload_n 0, 1) := by decide +kernel
theorem d_X_doors_32 : decode b_X_doors 32 = .ok (.getfield 10, 3) := by decide +kernel
theorem d_X_doors_35 : decode b_X_doors 35 = .ok (.invokevirtual 137, 3) := by decide +kernel
theorem d_X_doors_38 : decode b_X_doors 38 = .ok (.aload_n 0, 1) := by decide +kernel
theorem d_X_doors_39 : decode b_X_doors 39 = .ok (.getfield 10, 3) := by decide +kernel
theorem d_X_doors_42 : decode b_X_doors 42 = .ok (.iload_n 1, 1) := by decide +kernel
theorem d_X_doors_43 : decode b_X_doors 43 = .ok (.invokevirtual 103, 3) := by decide +kernel
theorem d_X_doors_46 : decode b_X_doors 46 = .ok (.astore 4, 2) := by decide +kernel
theorem d_X_doors_48 : decode b_X_doors 48 = .ok (.aload 4, 2) := by decide +kernel
theorem d_X_doors_50 : decode b_X_doors 50 = .ok (.getfield 143, 3) := by decide +kernel
theorem d_X_doors_53 : decode b_X_doors 53 = .ok (.istore 5, 2) := by decide +kernel
theorem d_X_doors_55 : decode b_X_doors 55 = .ok (.aload 4, 2) := by decide +kernel
theorem d_X_doors_57 : decode b_X_doors 57 = .ok (.iload_n 2, 1) := by decide +kernel
theorem d_X_doors_58 : decode b_X_doors 58 = .ok (.putfield 143, 3) := by decide +kernel
theorem d_X_doors_61 : decode b_X_doors 61 = .ok (.iload 5, 2) := by decide +kernel
theorem d_X_doors_63 : decode b_X_doors 63 = .ok (.ireturn, 1) := by decide +kernel
abbrev b_X_hands : ByteArray := prog_1_method_10_code
def y_X_hands : MethodName := ⟨"PassedOnAndBetter", "hands", "(II)I"⟩
theorem m_X_hands : MV y_X_hands b_X_hands 6 (some .int) 2 := ⟨mG 602 (by decide +kernel) (by decide +kernel), mG 83 (by decide +kernel) (by decide +kernel), by decide +kernel⟩
theorem mi_X_hands : Cond.instanceMethod y_X_hands ∈ tbG := mG 600 (by decide +kernel) (by decide +kernel)
theorem ms_X_hands : Cond.selects y_X_hands.cls y_X_hands y_X_hands ∈ tbG := mG 601 (by decide +kernel) (by decide +kernel)
theorem d_X_hands_0 : decode b_X_hands 0 = .ok (.aload_n 0, 1) := by decide +kernel
theorem d_X_hands_1 : decode b_X_hands 1 = .ok (.iload_n 1, 1) := by decide +kernel
theorem d_X_hands_2 : decode b_X_hands 2 = .ok (.invokevirtual 112, 3) := by decide +kernel
theorem d_X_hands_5 : decode b_X_hands 5 = .ok (.aload_n 0, 1) := by decide +kernel
theorem d_X_hands_6 : decode b_X_hands 6 = .ok (.iload_n 2, 1) := by decide +kernel
theorem d_X_hands_7 : decode b_X_hands 7 = .ok (.invokevirtual 90, 3) := by decide +kernel
theorem d_X_hands_10 : decode b_X_hands 10 = .ok (.iconst 0, 1) := by decide +kernel
theorem d_X_hands_11 : decode b_X_hands 11 = .ok (.invokestatic 97, 3) := by decide +kernel
theorem d_X_hands_14 : decode b_X_hands 14 = .ok (.istore_n 3, 1) := by decide +kernel
theorem d_X_hands_15 : decode b_X_hands 15 = .ok (.iload_n 3, 1) := by decide +kernel
theorem d_X_hands_16 : decode b_X_hands 16 = .ok (.ifCond .eq 9, 3) := by decide +kernel
theorem d_X_hands_19 : decode b_X_hands 19 = .ok (.aload_n 0, 1) := by decide +kernel
theorem d_X_hands_20 : decode b_X_hands 20 = .ok (.iload_n 3, 1) := by decide +kernel
theorem d_X_hands_21 : decode b_X_hands 21 = .ok (.invokevirtual 69, 3) := by decide +kernel
theorem d_X_hands_24 : decode b_X_hands 24 = .ok (.ireturn, 1) := by decide +kernel
theorem d_X_hands_25 : decode b_X_hands 25 = .ok (.aload_n 0, 1) := by decide +kernel
theorem d_X_hands_26 : decode b_X_hands 26 = .ok (.getfield 22, 3) := by decide +kernel
theorem d_X_hands_29 : decode b_X_hands 29 = .ok (.aload_n 0, 1) := by decide +kernel
theorem d_X_hands_30 : decode b_X_hands 30 = .ok (.getfield 10, 3) := by decide +kernel
theorem d_X_hands_33 : decode b_X_hands 33 = .ok (.invokevirtual 137, 3) := by decide +kernel
theorem d_X_hands_36 : decode b_X_hands 36 = .ok (.aload_n 0, 1) := by decide +kernel
theorem d_X_hands_37 : decode b_X_hands 37 = .ok (.getfield 10, 3) := by decide +kernel
theorem d_X_hands_40 : decode b_X_hands 40 = .ok (.iload_n 1, 1) := by decide +kernel
theorem d_X_hands_41 : decode b_X_hands 41 = .ok (.invokevirtual 115, 3) := by decide +kernel
theorem d_X_hands_44 : decode b_X_hands 44 = .ok (.astore 4, 2) := by decide +kernel
theorem d_X_hands_46 : decode b_X_hands 46 = .ok (.aload 4, 2) := by decide +kernel
theorem d_X_hands_48 : decode b_X_hands 48 = .ok (.getfield 147, 3) := by decide +kernel
theorem d_X_hands_51 : decode b_X_hands 51 = .ok (.istore 5, 2) := by decide +kernel
theorem d_X_hands_53 : decode b_X_hands 53 = .ok (.aload 4, 2) := by decide +kernel
theorem d_X_hands_55 : decode b_X_hands 55 = .ok (.iload_n 2, 1) := by decide +kernel
theorem d_X_hands_56 : decode b_X_hands 56 = .ok (.invokevirtual 150, 3) := by decide +kernel
theorem d_X_hands_59 : decode b_X_hands 59 = .ok (.iload 5, 2) := by decide +kernel
theorem d_X_hands_61 : decode b_X_hands 61 = .ok (.ireturn, 1) := by decide +kernel
abbrev b_C_allWorth : ByteArray := prog_2_method_13_code
def y_C_allWorth : MethodName := ⟨"PassedOnAndBetter$Company", "allWorth", "()I"⟩
theorem m_C_allWorth : MV y_C_allWorth b_C_allWorth 3 (some .int) 0 := ⟨mG 612 (by decide +kernel) (by decide +kernel), mG 84 (by decide +kernel) (by decide +kernel), by decide +kernel⟩
theorem mi_C_allWorth : Cond.instanceMethod y_C_allWorth ∈ tbG := mG 610 (by decide +kernel) (by decide +kernel)
theorem ms_C_allWorth : Cond.selects y_C_allWorth.cls y_C_allWorth y_C_allWorth ∈ tbG := mG 611 (by decide +kernel) (by decide +kernel)
theorem d_C_allWorth_0 : decode b_C_allWorth 0 = .ok (.iconst 0, 1) := by decide +kernel
theorem d_C_allWorth_1 : decode b_C_allWorth 1 = .ok (.istore_n 1, 1) := by decide +kernel
theorem d_C_allWorth_2 : decode b_C_allWorth 2 = .ok (.iconst 0, 1) := by decide +kernel
theorem d_C_allWorth_3 : decode b_C_allWorth 3 = .ok (.istore_n 2, 1) := by decide +kernel
theorem d_C_allWorth_4 : decode b_C_allWorth 4 = .ok (.iload_n 2, 1) := by decide +kernel
theorem d_C_allWorth_5 : decode b_C_allWorth 5 = .ok (.aload_n 0, 1) := by decide +kernel
theorem d_C_allWorth_6 : decode b_C_allWorth 6 = .ok (.getfield 37, 3) := by decide +kernel
theorem d_C_allWorth_9 : decode b_C_allWorth 9 = .ok (.if_icmp .ge 20, 3) := by decide +kernel
theorem d_C_allWorth_12 : decode b_C_allWorth 12 = .ok (.iload_n 1, 1) := by decide +kernel
theorem d_C_allWorth_13 : decode b_C_allWorth 13 = .ok (.aload_n 0, 1) := by decide +kernel
theorem d_C_allWorth_14 : decode b_C_allWorth 14 = .ok (.iload_n 2, 1) := by decide +kernel
theorem d_C_allWorth_15 : decode b_C_allWorth 15 = .ok (.invokevirtual 51, 3) := by decide +kernel
theorem d_C_allWorth_18 : decode b_C_allWorth 18 = .ok (.getfield 70, 3) := by decide +kernel
theorem d_C_allWorth_21 : decode b_C_allWorth 21 = .ok (.iadd, 1) := by decide +kernel
theorem d_C_allWorth_22 : decode b_C_allWorth 22 = .ok (.istore_n 1, 1) := by decide +kernel
theorem d_C_allWorth_23 : decode b_C_allWorth 23 = .ok (.iinc 2 1, 3) := by decide +kernel
theorem d_C_allWorth_26 : decode b_C_allWorth 26 = .ok (.goto (-22), 3) := by decide +kernel
theorem d_C_allWorth_29 : decode b_C_allWorth 29 = .ok (.iload_n 1, 1) := by decide +kernel
theorem d_C_allWorth_30 : decode b_C_allWorth 30 = .ok (.ireturn, 1) := by decide +kernel
abbrev b_X_months : ByteArray := prog_1_method_11_code
def y_X_months : MethodName := ⟨"PassedOnAndBetter", "months", "(I)I"⟩
theorem m_X_months : MV y_X_months b_X_months 3 (some .int) 1 := ⟨mG 607 (by decide +kernel) (by decide +kernel), mG 83 (by decide +kernel) (by decide +kernel), by decide +kernel⟩
theorem mi_X_months : Cond.instanceMethod y_X_months ∈ tbG := mG 605 (by decide +kernel) (by decide +kernel)
theorem ms_X_months : Cond.selects y_X_months.cls y_X_months y_X_months ∈ tbG := mG 606 (by decide +kernel) (by decide +kernel)
theorem d_X_months_0 : decode b_X_months 0 = .ok (.iload_n 1, 1) := by decide +kernel
theorem d_X_months_1 : decode b_X_months 1 = .ok (.iconst 1, 1) := by decide +kernel
theorem d_X_months_2 : decode b_X_months 2 = .ok (.bipush 60, 2) := by decide +kernel
theorem d_X_months_4 : decode b_X_months 4 = .ok (.invokestatic 57, 3) := by decide +kernel
theorem d_X_months_7 : decode b_X_months 7 = .ok (.istore_n 2, 1) := by decide +kernel
theorem d_X_months_8 : decode b_X_months 8 = .ok (.iload_n 2, 1) := by decide +kernel
theorem d_X_months_9 : decode b_X_months 9 = .ok (.ifCond .ne 21, 3) := by decide +kernel
theorem d_X_months_12 : decode b_X_months 12 = .ok (.aload_n 0, 1) := by decide +kernel
theorem d_X_months_13 : decode b_X_months 13 = .ok (.getfield 10, 3) := by decide +kernel
theorem d_X_months_16 : decode b_X_months 16 = .ok (.getfield 154, 3) := by decide +kernel
theorem d_X_months_19 : decode b_X_months 19 = .ok (.iload_n 1, 1) := by decide +kernel
theorem d_X_months_20 : decode b_X_months 20 = .ok (.iadd, 1) := by decide +kernel
theorem d_X_months_21 : decode b_X_months 21 = .ok (.sipush 999, 3) := by decide +kernel
theorem d_X_months_24 : decode b_X_months 24 = .ok (.if_icmp .le 6, 3) := by decide +kernel
theorem d_X_months_27 : decode b_X_months 27 = .ok (.bipush (-6), 2) := by decide +kernel
theorem d_X_months_29 : decode b_X_months 29 = .ok (.istore_n 2, 1) := by decide +kernel
theorem d_X_months_30 : decode b_X_months 30 = .ok (.iload_n 2, 1) := by decide +kernel
theorem d_X_months_31 : decode b_X_months 31 = .ok (.ifCond .eq 9, 3) := by decide +kernel
theorem d_X_months_34 : decode b_X_months 34 = .ok (.aload_n 0, 1) := by decide +kernel
theorem d_X_months_35 : decode b_X_months 35 = .ok (.iload_n 2, 1) := by decide +kernel
theorem d_X_months_36 : decode b_X_months 36 = .ok (.invokevirtual 69, 3) := by decide +kernel
theorem d_X_months_39 : decode b_X_months 39 = .ok (.ireturn, 1) := by decide +kernel
theorem d_X_months_40 : decode b_X_months 40 = .ok (.aload_n 0, 1) := by decide +kernel
theorem d_X_months_41 : decode b_X_months 41 = .ok (.getfield 22, 3) := by decide +kernel
theorem d_X_months_44 : decode b_X_months 44 = .ok (.aload_n 0, 1) := by decide +kernel
theorem d_X_months_45 : decode b_X_months 45 = .ok (.getfield 10, 3) := by decide +kernel
theorem d_X_months_48 : decode b_X_months 48 = .ok (.invokevirtual 137, 3) := by decide +kernel
theorem d_X_months_51 : decode b_X_months 51 = .ok (.aload_n 0, 1) := by decide +kernel
theorem d_X_months_52 : decode b_X_months 52 = .ok (.getfield 10, 3) := by decide +kernel
theorem d_X_months_55 : decode b_X_months 55 = .ok (.iload_n 1, 1) := by decide +kernel
theorem d_X_months_56 : decode b_X_months 56 = .ok (.invokevirtual 157, 3) := by decide +kernel
theorem d_X_months_59 : decode b_X_months 59 = .ok (.aload_n 0, 1) := by decide +kernel
theorem d_X_months_60 : decode b_X_months 60 = .ok (.getfield 10, 3) := by decide +kernel
theorem d_X_months_63 : decode b_X_months 63 = .ok (.invokevirtual 160, 3) := by decide +kernel
theorem d_X_months_66 : decode b_X_months 66 = .ok (.ireturn, 1) := by decide +kernel
abbrev b_P_takeBack : ByteArray := prog_9_method_4_code
def y_P_takeBack : MethodName := ⟨"PassedOnAndBetter$Past", "takeBack", "(LPassedOnAndBetter$Company;)V"⟩
theorem m_P_takeBack : MV y_P_takeBack b_P_takeBack 2 none 1 := ⟨mG 620 (by decide +kernel) (by decide +kernel), mG 87 (by decide +kernel) (by decide +kernel), by decide +kernel⟩
theorem mi_P_takeBack : Cond.instanceMethod y_P_takeBack ∈ tbG := mG 618 (by decide +kernel) (by decide +kernel)
theorem ms_P_takeBack : Cond.selects y_P_takeBack.cls y_P_takeBack y_P_takeBack ∈ tbG := mG 619 (by decide +kernel) (by decide +kernel)
theorem d_P_takeBack_0 : decode b_P_takeBack 0 = .ok (.aload_n 0, 1) := by decide +kernel
theorem d_P_takeBack_1 : decode b_P_takeBack 1 = .ok (.getfield 20, 3) := by decide +kernel
theorem d_P_takeBack_4 : decode b_P_takeBack 4 = .ok (.ifCond .le 7, 3) := by decide +kernel
theorem d_P_takeBack_7 : decode b_P_takeBack 7 = .ok (.aload_n 1, 1) := by decide +kernel
theorem d_P_takeBack_8 : decode b_P_takeBack 8 = .ok (.ifnonnull 4, 3) := by decide +kernel
theorem d_P_takeBack_11 : decode b_P_takeBack 11 = .ok (.return_, 1) := by decide +kernel
theorem d_P_takeBack_12 : decode b_P_takeBack 12 = .ok (.aload_n 0, 1) := by decide +kernel
theorem d_P_takeBack_13 : decode b_P_takeBack 13 = .ok (.dup, 1) := by decide +kernel
theorem d_P_takeBack_14 : decode b_P_takeBack 14 = .ok (.getfield 20, 3) := by decide +kernel
theorem d_P_takeBack_17 : decode b_P_takeBack 17 = .ok (.iconst 1, 1) := by decide +kernel
theorem d_P_takeBack_18 : decode b_P_takeBack 18 = .ok (.isub, 1) := by decide +kernel
theorem d_P_takeBack_19 : decode b_P_takeBack 19 = .ok (.putfield 20, 3) := by decide +kernel
theorem d_P_takeBack_22 : decode b_P_takeBack 22 = .ok (.aload_n 1, 1) := by decide +kernel
theorem d_P_takeBack_23 : decode b_P_takeBack 23 = .ok (.aload_n 0, 1) := by decide +kernel
theorem d_P_takeBack_24 : decode b_P_takeBack 24 = .ok (.aload_n 0, 1) := by decide +kernel
theorem d_P_takeBack_25 : decode b_P_takeBack 25 = .ok (.getfield 20, 3) := by decide +kernel
theorem d_P_takeBack_28 : decode b_P_takeBack 28 = .ok (.invokevirtual 23, 3) := by decide +kernel
theorem d_P_takeBack_31 : decode b_P_takeBack 31 = .ok (.invokevirtual 27, 3) := by decide +kernel
theorem d_P_takeBack_34 : decode b_P_takeBack 34 = .ok (.return_, 1) := by decide +kernel
abbrev b_X_back : ByteArray := prog_1_method_12_code
def y_X_back : MethodName := ⟨"PassedOnAndBetter", "back", "()I"⟩
theorem m_X_back : MV y_X_back b_X_back 1 (some .int) 0 := ⟨mG 616 (by decide +kernel) (by decide +kernel), mG 83 (by decide +kernel) (by decide +kernel), by decide +kernel⟩
theorem mi_X_back : Cond.instanceMethod y_X_back ∈ tbG := mG 614 (by decide +kernel) (by decide +kernel)
theorem ms_X_back : Cond.selects y_X_back.cls y_X_back y_X_back ∈ tbG := mG 615 (by decide +kernel) (by decide +kernel)
theorem d_X_back_0 : decode b_X_back 0 = .ok (.aload_n 0, 1) := by decide +kernel
theorem d_X_back_1 : decode b_X_back 1 = .ok (.getfield 22, 3) := by decide +kernel
theorem d_X_back_4 : decode b_X_back 4 = .ok (.getfield 164, 3) := by decide +kernel
theorem d_X_back_7 : decode b_X_back 7 = .ok (.ifCond .ne 10, 3) := by decide +kernel
theorem d_X_back_10 : decode b_X_back 10 = .ok (.aload_n 0, 1) := by decide +kernel
theorem d_X_back_11 : decode b_X_back 11 = .ok (.bipush (-3), 2) := by decide +kernel
theorem d_X_back_13 : decode b_X_back 13 = .ok (.invokevirtual 69, 3) := by decide +kernel
theorem d_X_back_16 : decode b_X_back 16 = .ok (.ireturn, 1) := by decide +kernel
theorem d_X_back_17 : decode b_X_back 17 = .ok (.aload_n 0, 1) := by decide +kernel
theorem d_X_back_18 : decode b_X_back 18 = .ok (.getfield 22, 3) := by decide +kernel
theorem d_X_back_21 : decode b_X_back 21 = .ok (.aload_n 0, 1) := by decide +kernel
theorem d_X_back_22 : decode b_X_back 22 = .ok (.getfield 10, 3) := by decide +kernel
theorem d_X_back_25 : decode b_X_back 25 = .ok (.invokevirtual 167, 3) := by decide +kernel
theorem d_X_back_28 : decode b_X_back 28 = .ok (.aload_n 0, 1) := by decide +kernel
theorem d_X_back_29 : decode b_X_back 29 = .ok (.getfield 22, 3) := by decide +kernel
theorem d_X_back_32 : decode b_X_back 32 = .ok (.getfield 164, 3) := by decide +kernel
theorem d_X_back_35 : decode b_X_back 35 = .ok (.ireturn, 1) := by decide +kernel
abbrev b_X_spanNo : ByteArray := prog_1_method_53_code
def y_X_spanNo : MethodName := ⟨"PassedOnAndBetter", "spanNo", "(I)I"⟩
theorem m_X_spanNo : MV y_X_spanNo b_X_spanNo 1 (some .int) 1 := ⟨mG 627 (by decide +kernel) (by decide +kernel), mG 83 (by decide +kernel) (by decide +kernel), by decide +kernel⟩
theorem mi_X_spanNo : Cond.static y_X_spanNo ∈ tbG := mG 626 (by decide +kernel) (by decide +kernel)
theorem d_X_spanNo_0 : decode b_X_spanNo 0 = .ok (.iload_n 0, 1) := by decide +kernel
theorem d_X_spanNo_1 : decode b_X_spanNo 1 = .ok (.iconst 0, 1) := by decide +kernel
theorem d_X_spanNo_2 : decode b_X_spanNo 2 = .ok (.bipush 60, 2) := by decide +kernel
theorem d_X_spanNo_4 : decode b_X_spanNo 4 = .ok (.invokestatic 57, 3) := by decide +kernel
theorem d_X_spanNo_7 : decode b_X_spanNo 7 = .ok (.ireturn, 1) := by decide +kernel
abbrev b_M_passGift : ByteArray := prog_7_method_3_code
def y_M_passGift : MethodName := ⟨"PassedOnAndBetter$Mind", "passGift", "(LPassedOnAndBetter$Gift;I)V"⟩
theorem m_M_passGift : MV y_M_passGift b_M_passGift 4 none 2 := ⟨mG 637 (by decide +kernel) (by decide +kernel), mG 90 (by decide +kernel) (by decide +kernel), by decide +kernel⟩
theorem mi_M_passGift : Cond.instanceMethod y_M_passGift ∈ tbG := mG 636 (by decide +kernel) (by decide +kernel)
theorem ms_M_passGift : Cond.selects y_M_passGift.cls y_M_passGift y_M_passGift ∈ tbG := mG 19 (by decide +kernel) (by decide +kernel)
theorem d_M_passGift_0 : decode b_M_passGift 0 = .ok (.iconst 0, 1) := by decide +kernel
theorem d_M_passGift_1 : decode b_M_passGift 1 = .ok (.istore_n 3, 1) := by decide +kernel
theorem d_M_passGift_2 : decode b_M_passGift 2 = .ok (.iload_n 3, 1) := by decide +kernel
theorem d_M_passGift_3 : decode b_M_passGift 3 = .ok (.iload_n 2, 1) := by decide +kernel
theorem d_M_passGift_4 : decode b_M_passGift 4 = .ok (.if_icmp .ge 21, 3) := by decide +kernel
theorem d_M_passGift_7 : decode b_M_passGift 7 = .ok (.aload_n 1, 1) := by decide +kernel
theorem d_M_passGift_8 : decode b_M_passGift 8 = .ok (.ifnull 17, 3) := by decide +kernel
theorem d_M_passGift_11 : decode b_M_passGift 11 = .ok (.aload_n 1, 1) := by decide +kernel
theorem d_M_passGift_12 : decode b_M_passGift 12 = .ok (.aload_n 0, 1) := by decide +kernel
theorem d_M_passGift_13 : decode b_M_passGift 13 = .ok (.getfield 22, 3) := by decide +kernel
theorem d_M_passGift_16 : decode b_M_passGift 16 = .ok (.invokevirtual 36, 3) := by decide +kernel
theorem d_M_passGift_19 : decode b_M_passGift 19 = .ok (.iinc 3 1, 3) := by decide +kernel
theorem d_M_passGift_22 : decode b_M_passGift 22 = .ok (.goto (-20), 3) := by decide +kernel
theorem d_M_passGift_25 : decode b_M_passGift 25 = .ok (.return_, 1) := by decide +kernel
abbrev b_M_giftThen : ByteArray := prog_7_method_4_code
def y_M_giftThen : MethodName := ⟨"PassedOnAndBetter$Mind", "giftThen", "(III)I"⟩
theorem m_M_giftThen : MV y_M_giftThen b_M_giftThen 5 (some .int) 3 := ⟨mG 631 (by decide +kernel) (by decide +kernel), mG 90 (by decide +kernel) (by decide +kernel), by decide +kernel⟩
theorem mi_M_giftThen : Cond.instanceMethod y_M_giftThen ∈ tbG := mG 629 (by decide +kernel) (by decide +kernel)
theorem ms_M_giftThen : Cond.selects y_M_giftThen.cls y_M_giftThen y_M_giftThen ∈ tbG := mG 630 (by decide +kernel) (by decide +kernel)
theorem d_M_giftThen_0 : decode b_M_giftThen 0 = .ok (.aload_n 0, 1) := by decide +kernel
theorem d_M_giftThen_1 : decode b_M_giftThen 1 = .ok (.invokevirtual 41, 3) := by decide +kernel
theorem d_M_giftThen_4 : decode b_M_giftThen 4 = .ok (.iload_n 1, 1) := by decide +kernel
theorem d_M_giftThen_5 : decode b_M_giftThen 5 = .ok (.invokevirtual 45, 3) := by decide +kernel
theorem d_M_giftThen_8 : decode b_M_giftThen 8 = .ok (.astore 4, 2) := by decide +kernel
theorem d_M_giftThen_10 : decode b_M_giftThen 10 = .ok (.aload_n 0, 1) := by decide +kernel
theorem d_M_giftThen_11 : decode b_M_giftThen 11 = .ok (.aload 4, 2) := by decide +kernel
theorem d_M_giftThen_13 : decode b_M_giftThen 13 = .ok (.iload_n 2, 1) := by decide +kernel
theorem d_M_giftThen_14 : decode b_M_giftThen 14 = .ok (.invokevirtual 49, 3) := by decide +kernel
theorem d_M_giftThen_17 : decode b_M_giftThen 17 = .ok (.iload_n 3, 1) := by decide +kernel
theorem d_M_giftThen_18 : decode b_M_giftThen 18 = .ok (.tableswitch 44 0 2 #[26, 32, 38], 26) := by decide +kernel
theorem d_M_giftThen_44 : decode b_M_giftThen 44 = .ok (.aload 4, 2) := by decide +kernel
theorem d_M_giftThen_46 : decode b_M_giftThen 46 = .ok (.getfield 53, 3) := by decide +kernel
theorem d_M_giftThen_49 : decode b_M_giftThen 49 = .ok (.ireturn, 1) := by decide +kernel
theorem d_M_giftThen_50 : decode b_M_giftThen 50 = .ok (.aload 4, 2) := by decide +kernel
theorem d_M_giftThen_52 : decode b_M_giftThen 52 = .ok (.getfield 57, 3) := by decide +kernel
theorem d_M_giftThen_55 : decode b_M_giftThen 55 = .ok (.ireturn, 1) := by decide +kernel
theorem d_M_giftThen_56 : decode b_M_giftThen 56 = .ok (.aload 4, 2) := by decide +kernel
theorem d_M_giftThen_58 : decode b_M_giftThen 58 = .ok (.getfield 60, 3) := by decide +kernel
theorem d_M_giftThen_61 : decode b_M_giftThen 61 = .ok (.ireturn, 1) := by decide +kernel
theorem d_M_giftThen_62 : decode b_M_giftThen 62 = .ok (.aload 4, 2) := by decide +kernel
theorem d_M_giftThen_64 : decode b_M_giftThen 64 = .ok (.getfield 63, 3) := by decide +kernel
theorem d_M_giftThen_67 : decode b_M_giftThen 67 = .ok (.ireturn, 1) := by decide +kernel
abbrev b_X_behind : ByteArray := prog_1_method_13_code
def y_X_behind : MethodName := ⟨"PassedOnAndBetter", "behind", "(III)I"⟩
theorem m_X_behind : MV y_X_behind b_X_behind 5 (some .int) 3 := ⟨mG 624 (by decide +kernel) (by decide +kernel), mG 83 (by decide +kernel) (by decide +kernel), by decide +kernel⟩
theorem mi_X_behind : Cond.instanceMethod y_X_behind ∈ tbG := mG 622 (by decide +kernel) (by decide +kernel)
theorem ms_X_behind : Cond.selects y_X_behind.cls y_X_behind y_X_behind ∈ tbG := mG 623 (by decide +kernel) (by decide +kernel)
theorem d_X_behind_0 : decode b_X_behind 0 = .ok (.aload_n 0, 1) := by decide +kernel
theorem d_X_behind_1 : decode b_X_behind 1 = .ok (.iload_n 1, 1) := by decide +kernel
theorem d_X_behind_2 : decode b_X_behind 2 = .ok (.invokevirtual 112, 3) := by decide +kernel
theorem d_X_behind_5 : decode b_X_behind 5 = .ok (.iload_n 2, 1) := by decide +kernel
theorem d_X_behind_6 : decode b_X_behind 6 = .ok (.invokestatic 170, 3) := by decide +kernel
theorem d_X_behind_9 : decode b_X_behind 9 = .ok (.iload_n 3, 1) := by decide +kernel
theorem d_X_behind_10 : decode b_X_behind 10 = .ok (.iconst 3, 1) := by decide +kernel
theorem d_X_behind_11 : decode b_X_behind 11 = .ok (.invokestatic 93, 3) := by decide +kernel
theorem d_X_behind_14 : decode b_X_behind 14 = .ok (.invokestatic 97, 3) := by decide +kernel
theorem d_X_behind_17 : decode b_X_behind 17 = .ok (.istore 4, 2) := by decide +kernel
theorem d_X_behind_19 : decode b_X_behind 19 = .ok (.iload 4, 2) := by decide +kernel
theorem d_X_behind_21 : decode b_X_behind 21 = .ok (.ifCond .ne 16, 3) := by decide +kernel
theorem d_X_behind_24 : decode b_X_behind 24 = .ok (.aload_n 0, 1) := by decide +kernel
theorem d_X_behind_25 : decode b_X_behind 25 = .ok (.getfield 45, 3) := by decide +kernel
theorem d_X_behind_28 : decode b_X_behind 28 = .ok (.iload_n 1, 1) := by decide +kernel
theorem d_X_behind_29 : decode b_X_behind 29 = .ok (.iload_n 2, 1) := by decide +kernel
theorem d_X_behind_30 : decode b_X_behind 30 = .ok (.iload_n 3, 1) := by decide +kernel
theorem d_X_behind_31 : decode b_X_behind 31 = .ok (.invokevirtual 173, 3) := by decide +kernel
theorem d_X_behind_34 : decode b_X_behind 34 = .ok (.goto 9, 3) := by decide +kernel
theorem d_X_behind_37 : decode b_X_behind 37 = .ok (.aload_n 0, 1) := by decide +kernel
theorem d_X_behind_38 : decode b_X_behind 38 = .ok (.iload 4, 2) := by decide +kernel
theorem d_X_behind_40 : decode b_X_behind 40 = .ok (.invokevirtual 69, 3) := by decide +kernel
theorem d_X_behind_43 : decode b_X_behind 43 = .ok (.ireturn, 1) := by decide +kernel
abbrev b_X_friendOrAllNo : ByteArray := prog_1_method_49_code
def y_X_friendOrAllNo : MethodName := ⟨"PassedOnAndBetter", "friendOrAllNo", "(I)I"⟩
theorem m_X_friendOrAllNo : MV y_X_friendOrAllNo b_X_friendOrAllNo 2 (some .int) 1 := ⟨mG 646 (by decide +kernel) (by decide +kernel), mG 83 (by decide +kernel) (by decide +kernel), by decide +kernel⟩
theorem mi_X_friendOrAllNo : Cond.instanceMethod y_X_friendOrAllNo ∈ tbG := mG 645 (by decide +kernel) (by decide +kernel)
theorem ms_X_friendOrAllNo : Cond.selects y_X_friendOrAllNo.cls y_X_friendOrAllNo y_X_friendOrAllNo ∈ tbG := mG 20 (by decide +kernel) (by decide +kernel)
theorem d_X_friendOrAllNo_0 : decode b_X_friendOrAllNo 0 = .ok (.iload_n 1, 1) := by decide +kernel
theorem d_X_friendOrAllNo_1 : decode b_X_friendOrAllNo 1 = .ok (.iconst (-1), 1) := by decide +kernel
theorem d_X_friendOrAllNo_2 : decode b_X_friendOrAllNo 2 = .ok (.if_icmp .ne 7, 3) := by decide +kernel
theorem d_X_friendOrAllNo_5 : decode b_X_friendOrAllNo 5 = .ok (.iconst 0, 1) := by decide +kernel
theorem d_X_friendOrAllNo_6 : decode b_X_friendOrAllNo 6 = .ok (.goto 8, 3) := by decide +kernel
theorem d_X_friendOrAllNo_9 : decode b_X_friendOrAllNo 9 = .ok (.aload_n 0, 1) := by decide +kernel
theorem d_X_friendOrAllNo_10 : decode b_X_friendOrAllNo 10 = .ok (.iload_n 1, 1) := by decide +kernel
theorem d_X_friendOrAllNo_11 : decode b_X_friendOrAllNo 11 = .ok (.invokevirtual 90, 3) := by decide +kernel
theorem d_X_friendOrAllNo_14 : decode b_X_friendOrAllNo 14 = .ok (.ireturn, 1) := by decide +kernel
abbrev b_M_heldThen : ByteArray := prog_7_method_5_code
def y_M_heldThen : MethodName := ⟨"PassedOnAndBetter$Mind", "heldThen", "(II)I"⟩
theorem m_M_heldThen : MV y_M_heldThen b_M_heldThen 3 (some .int) 2 := ⟨mG 650 (by decide +kernel) (by decide +kernel), mG 90 (by decide +kernel) (by decide +kernel), by decide +kernel⟩
theorem mi_M_heldThen : Cond.instanceMethod y_M_heldThen ∈ tbG := mG 648 (by decide +kernel) (by decide +kernel)
theorem ms_M_heldThen : Cond.selects y_M_heldThen.cls y_M_heldThen y_M_heldThen ∈ tbG := mG 649 (by decide +kernel) (by decide +kernel)
theorem d_M_heldThen_0 : decode b_M_heldThen 0 = .ok (.aload_n 0, 1) := by decide +kernel
theorem d_M_heldThen_1 : decode b_M_heldThen 1 = .ok (.invokevirtual 41, 3) := by decide +kernel
theorem d_M_heldThen_4 : decode b_M_heldThen 4 = .ok (.iload_n 2, 1) := by decide +kernel
theorem d_M_heldThen_5 : decode b_M_heldThen 5 = .ok (.invokevirtual 66, 3) := by decide +kernel
theorem d_M_heldThen_8 : decode b_M_heldThen 8 = .ok (.iload_n 1, 1) := by decide +kernel
theorem d_M_heldThen_9 : decode b_M_heldThen 9 = .ok (.iconst (-1), 1) := by decide +kernel
theorem d_M_heldThen_10 : decode b_M_heldThen 10 = .ok (.if_icmp .ne 13, 3) := by decide +kernel
theorem d_M_heldThen_13 : decode b_M_heldThen 13 = .ok (.aload_n 0, 1) := by decide +kernel
theorem d_M_heldThen_14 : decode b_M_heldThen 14 = .ok (.getfield 22, 3) := by decide +kernel
theorem d_M_heldThen_17 : decode b_M_heldThen 17 = .ok (.invokevirtual 70, 3) := by decide +kernel
theorem d_M_heldThen_20 : decode b_M_heldThen 20 = .ok (.goto 11, 3) := by decide +kernel
theorem d_M_heldThen_23 : decode b_M_heldThen 23 = .ok (.aload_n 0, 1) := by decide +kernel
theorem d_M_heldThen_24 : decode b_M_heldThen 24 = .ok (.getfield 22, 3) := by decide +kernel
theorem d_M_heldThen_27 : decode b_M_heldThen 27 = .ok (.iload_n 1, 1) := by decide +kernel
theorem d_M_heldThen_28 : decode b_M_heldThen 28 = .ok (.invokevirtual 74, 3) := by decide +kernel
theorem d_M_heldThen_31 : decode b_M_heldThen 31 = .ok (.ireturn, 1) := by decide +kernel
abbrev b_X_then : ByteArray := prog_1_method_14_code
def y_X_then : MethodName := ⟨"PassedOnAndBetter", "then", "(II)I"⟩
theorem m_X_then : MV y_X_then b_X_then 4 (some .int) 2 := ⟨mG 642 (by decide +kernel) (by decide +kernel), mG 83 (by decide +kernel) (by decide +kernel), by decide +kernel⟩
theorem mi_X_then : Cond.instanceMethod y_X_then ∈ tbG := mG 640 (by decide +kernel) (by decide +kernel)
theorem ms_X_then : Cond.selects y_X_then.cls y_X_then y_X_then ∈ tbG := mG 641 (by decide +kernel) (by decide +kernel)
theorem d_X_then_0 : decode b_X_then 0 = .ok (.aload_n 0, 1) := by decide +kernel
theorem d_X_then_1 : decode b_X_then 1 = .ok (.iload_n 1, 1) := by decide +kernel
theorem d_X_then_2 : decode b_X_then 2 = .ok (.invokevirtual 176, 3) := by decide +kernel
theorem d_X_then_5 : decode b_X_then 5 = .ok (.iload_n 2, 1) := by decide +kernel
theorem d_X_then_6 : decode b_X_then 6 = .ok (.invokestatic 170, 3) := by decide +kernel
theorem d_X_then_9 : decode b_X_then 9 = .ok (.iconst 0, 1) := by decide +kernel
theorem d_X_then_10 : decode b_X_then 10 = .ok (.invokestatic 97, 3) := by decide +kernel
theorem d_X_then_13 : decode b_X_then 13 = .ok (.istore_n 3, 1) := by decide +kernel
theorem d_X_then_14 : decode b_X_then 14 = .ok (.iload_n 3, 1) := by decide +kernel
theorem d_X_then_15 : decode b_X_then 15 = .ok (.ifCond .ne 15, 3) := by decide +kernel
theorem d_X_then_18 : decode b_X_then 18 = .ok (.aload_n 0, 1) := by decide +kernel
theorem d_X_then_19 : decode b_X_then 19 = .ok (.getfield 45, 3) := by decide +kernel
theorem d_X_then_22 : decode b_X_then 22 = .ok (.iload_n 1, 1) := by decide +kernel
theorem d_X_then_23 : decode b_X_then 23 = .ok (.iload_n 2, 1) := by decide +kernel
theorem d_X_then_24 : decode b_X_then 24 = .ok (.invokevirtual 179, 3) := by decide +kernel
theorem d_X_then_27 : decode b_X_then 27 = .ok (.goto 8, 3) := by decide +kernel
theorem d_X_then_30 : decode b_X_then 30 = .ok (.aload_n 0, 1) := by decide +kernel
theorem d_X_then_31 : decode b_X_then 31 = .ok (.iload_n 3, 1) := by decide +kernel
theorem d_X_then_32 : decode b_X_then 32 = .ok (.invokevirtual 69, 3) := by decide +kernel
theorem d_X_then_35 : decode b_X_then 35 = .ok (.ireturn, 1) := by decide +kernel
abbrev b_M_firstAway : ByteArray := prog_7_method_6_code
def y_M_firstAway : MethodName := ⟨"PassedOnAndBetter$Mind", "firstAway", "(I)I"⟩
theorem m_M_firstAway : MV y_M_firstAway b_M_firstAway 5 (some .int) 1 := ⟨mG 661 (by decide +kernel) (by decide +kernel), mG 90 (by decide +kernel) (by decide +kernel), by decide +kernel⟩
theorem mi_M_firstAway : Cond.instanceMethod y_M_firstAway ∈ tbG := mG 659 (by decide +kernel) (by decide +kernel)
theorem ms_M_firstAway : Cond.selects y_M_firstAway.cls y_M_firstAway y_M_firstAway ∈ tbG := mG 660 (by decide +kernel) (by decide +kernel)
theorem d_M_firstAway_0 : decode b_M_firstAway 0 = .ok (.aload_n 0, 1) := by decide +kernel
theorem d_M_firstAway_1 : decode b_M_firstAway 1 = .ok (.invokevirtual 41, 3) := by decide +kernel
theorem d_M_firstAway_4 : decode b_M_firstAway 4 = .ok (.iload_n 1, 1) := by decide +kernel
theorem d_M_firstAway_5 : decode b_M_firstAway 5 = .ok (.invokevirtual 45, 3) := by decide +kernel
theorem d_M_firstAway_8 : decode b_M_firstAway 8 = .ok (.astore_n 2, 1) := by decide +kernel
theorem d_M_firstAway_9 : decode b_M_firstAway 9 = .ok (.aload_n 2, 1) := by decide +kernel
theorem d_M_firstAway_10 : decode b_M_firstAway 10 = .ok (.getfield 53, 3) := by decide +kernel
theorem d_M_firstAway_13 : decode b_M_firstAway 13 = .ok (.istore_n 3, 1) := by decide +kernel
theorem d_M_firstAway_14 : decode b_M_firstAway 14 = .ok (.iconst 1, 1) := by decide +kernel
theorem d_M_firstAway_15 : decode b_M_firstAway 15 = .ok (.istore 4, 2) := by decide +kernel
theorem d_M_firstAway_17 : decode b_M_firstAway 17 = .ok (.iload 4, 2) := by decide +kernel
theorem d_M_firstAway_19 : decode b_M_firstAway 19 = .ok (.bipush 60, 2) := by decide +kernel
theorem d_M_firstAway_21 : decode b_M_firstAway 21 = .ok (.if_icmp .gt 28, 3) := by decide +kernel
theorem d_M_firstAway_24 : decode b_M_firstAway 24 = .ok (.aload_n 2, 1) := by decide +kernel
theorem d_M_firstAway_25 : decode b_M_firstAway 25 = .ok (.aload_n 0, 1) := by decide +kernel
theorem d_M_firstAway_26 : decode b_M_firstAway 26 = .ok (.getfield 22, 3) := by decide +kernel
theorem d_M_firstAway_29 : decode b_M_firstAway 29 = .ok (.invokevirtual 36, 3) := by decide +kernel
theorem d_M_firstAway_32 : decode b_M_firstAway 32 = .ok (.aload_n 2, 1) := by decide +kernel
theorem d_M_firstAway_33 : decode b_M_firstAway 33 = .ok (.getfield 53, 3) := by decide +kernel
theorem d_M_firstAway_36 : decode b_M_firstAway 36 = .ok (.iload_n 3, 1) := by decide +kernel
theorem d_M_firstAway_37 : decode b_M_firstAway 37 = .ok (.if_icmp .eq 6, 3) := by decide +kernel
theorem d_M_firstAway_40 : decode b_M_firstAway 40 = .ok (.iload 4, 2) := by decide +kernel
theorem d_M_firstAway_42 : decode b_M_firstAway 42 = .ok (.ireturn, 1) := by decide +kernel
theorem d_M_firstAway_43 : decode b_M_firstAway 43 = .ok (.iinc 4 1, 3) := by decide +kernel
theorem d_M_firstAway_46 : decode b_M_firstAway 46 = .ok (.goto (-29), 3) := by decide +kernel
theorem d_M_firstAway_49 : decode b_M_firstAway 49 = .ok (.bipush (-9), 2) := by decide +kernel
theorem d_M_firstAway_51 : decode b_M_firstAway 51 = .ok (.ireturn, 1) := by decide +kernel
abbrev b_M_firstRound : ByteArray := prog_7_method_7_code
def y_M_firstRound : MethodName := ⟨"PassedOnAndBetter$Mind", "firstRound", "(I)I"⟩
theorem m_M_firstRound : MV y_M_firstRound b_M_firstRound 6 (some .int) 1 := ⟨mG 665 (by decide +kernel) (by decide +kernel), mG 90 (by decide +kernel) (by decide +kernel), by decide +kernel⟩
theorem mi_M_firstRound : Cond.instanceMethod y_M_firstRound ∈ tbG := mG 663 (by decide +kernel) (by decide +kernel)
theorem ms_M_firstRound : Cond.selects y_M_firstRound.cls y_M_firstRound y_M_firstRound ∈ tbG := mG 664 (by decide +kernel) (by decide +kernel)
theorem d_M_firstRound_0 : decode b_M_firstRound 0 = .ok (.aload_n 0, 1) := by decide +kernel
theorem d_M_firstRound_1 : decode b_M_firstRound 1 = .ok (.invokevirtual 41, 3) := by decide +kernel
theorem d_M_firstRound_4 : decode b_M_firstRound 4 = .ok (.iload_n 1, 1) := by decide +kernel
theorem d_M_firstRound_5 : decode b_M_firstRound 5 = .ok (.invokevirtual 45, 3) := by decide +kernel
theorem d_M_firstRound_8 : decode b_M_firstRound 8 = .ok (.astore_n 2, 1) := by decide +kernel
theorem d_M_firstRound_9 : decode b_M_firstRound 9 = .ok (.aload_n 2, 1) := by decide +kernel
theorem d_M_firstRound_10 : decode b_M_firstRound 10 = .ok (.getfield 53, 3) := by decide +kernel
theorem d_M_firstRound_13 : decode b_M_firstRound 13 = .ok (.istore_n 3, 1) := by decide +kernel
theorem d_M_firstRound_14 : decode b_M_firstRound 14 = .ok (.iconst 0, 1) := by decide +kernel
theorem d_M_firstRound_15 : decode b_M_firstRound 15 = .ok (.istore 4, 2) := by decide +kernel
theorem d_M_firstRound_17 : decode b_M_firstRound 17 = .ok (.iconst 1, 1) := by decide +kernel
theorem d_M_firstRound_18 : decode b_M_firstRound 18 = .ok (.istore 5, 2) := by decide +kernel
theorem d_M_firstRound_20 : decode b_M_firstRound 20 = .ok (.iload 5, 2) := by decide +kernel
theorem d_M_firstRound_22 : decode b_M_firstRound 22 = .ok (.bipush 60, 2) := by decide +kernel
theorem d_M_firstRound_24 : decode b_M_firstRound 24 = .ok (.if_icmp .gt 39, 3) := by decide +kernel
theorem d_M_firstRound_27 : decode b_M_firstRound 27 = .ok (.aload_n 2, 1) := by decide +kernel
theorem d_M_firstRound_28 : decode b_M_firstRound 28 = .ok (.aload_n 0, 1) := by decide +kernel
theorem d_M_firstRound_29 : decode b_M_firstRound 29 = .ok (.getfield 22, 3) := by decide +kernel
theorem d_M_firstRound_32 : decode b_M_firstRound 32 = .ok (.invokevirtual 36, 3) := by decide +kernel
theorem d_M_firstRound_35 : decode b_M_firstRound 35 = .ok (.aload_n 2, 1) := by decide +kernel
theorem d_M_firstRound_36 : decode b_M_firstRound 36 = .ok (.getfield 53, 3) := by decide +kernel
theorem d_M_firstRound_39 : decode b_M_firstRound 39 = .ok (.iload_n 3, 1) := by decide +kernel
theorem d_M_firstRound_40 : decode b_M_firstRound 40 = .ok (.if_icmp .eq 9, 3) := by decide +kernel
theorem d_M_firstRound_43 : decode b_M_firstRound 43 = .ok (.iconst 1, 1) := by decide +kernel
theorem d_M_firstRound_44 : decode b_M_firstRound 44 = .ok (.istore 4, 2) := by decide +kernel
theorem d_M_firstRound_46 : decode b_M_firstRound 46 = .ok (.goto 11, 3) := by decide +kernel
theorem d_M_firstRound_49 : decode b_M_firstRound 49 = .ok (.iload 4, 2) := by decide +kernel
theorem d_M_firstRound_51 : decode b_M_firstRound 51 = .ok (.ifCond .eq 6, 3) := by decide +kernel
theorem d_M_firstRound_54 : decode b_M_firstRound 54 = .ok (.iload 5, 2) := by decide +kernel
theorem d_M_firstRound_56 : decode b_M_firstRound 56 = .ok (.ireturn, 1) := by decide +kernel
theorem d_M_firstRound_57 : decode b_M_firstRound 57 = .ok (.iinc 5 1, 3) := by decide +kernel
theorem d_M_firstRound_60 : decode b_M_firstRound 60 = .ok (.goto (-40), 3) := by decide +kernel
theorem d_M_firstRound_63 : decode b_M_firstRound 63 = .ok (.bipush (-9), 2) := by decide +kernel
theorem d_M_firstRound_65 : decode b_M_firstRound 65 = .ok (.ireturn, 1) := by decide +kernel
abbrev b_X_given : ByteArray := prog_1_method_15_code
def y_X_given : MethodName := ⟨"PassedOnAndBetter", "given", "(II)I"⟩
theorem m_X_given : MV y_X_given b_X_given 4 (some .int) 2 := ⟨mG 657 (by decide +kernel) (by decide +kernel), mG 83 (by decide +kernel) (by decide +kernel), by decide +kernel⟩
theorem mi_X_given : Cond.instanceMethod y_X_given ∈ tbG := mG 655 (by decide +kernel) (by decide +kernel)
theorem ms_X_given : Cond.selects y_X_given.cls y_X_given y_X_given ∈ tbG := mG 656 (by decide +kernel) (by decide +kernel)
theorem d_X_given_0 : decode b_X_given 0 = .ok (.aload_n 0, 1) := by decide +kernel
theorem d_X_given_1 : decode b_X_given 1 = .ok (.iload_n 1, 1) := by decide +kernel
theorem d_X_given_2 : decode b_X_given 2 = .ok (.invokevirtual 112, 3) := by decide +kernel
theorem d_X_given_5 : decode b_X_given 5 = .ok (.iload_n 2, 1) := by decide +kernel
theorem d_X_given_6 : decode b_X_given 6 = .ok (.iconst 1, 1) := by decide +kernel
theorem d_X_given_7 : decode b_X_given 7 = .ok (.invokestatic 93, 3) := by decide +kernel
theorem d_X_given_10 : decode b_X_given 10 = .ok (.iconst 0, 1) := by decide +kernel
theorem d_X_given_11 : decode b_X_given 11 = .ok (.invokestatic 97, 3) := by decide +kernel
theorem d_X_given_14 : decode b_X_given 14 = .ok (.istore_n 3, 1) := by decide +kernel
theorem d_X_given_15 : decode b_X_given 15 = .ok (.iload_n 3, 1) := by decide +kernel
theorem d_X_given_16 : decode b_X_given 16 = .ok (.ifCond .eq 9, 3) := by decide +kernel
theorem d_X_given_19 : decode b_X_given 19 = .ok (.aload_n 0, 1) := by decide +kernel
theorem d_X_given_20 : decode b_X_given 20 = .ok (.iload_n 3, 1) := by decide +kernel
theorem d_X_given_21 : decode b_X_given 21 = .ok (.invokevirtual 69, 3) := by decide +kernel
theorem d_X_given_24 : decode b_X_given 24 = .ok (.ireturn, 1) := by decide +kernel
theorem d_X_given_25 : decode b_X_given 25 = .ok (.iload_n 2, 1) := by decide +kernel
theorem d_X_given_26 : decode b_X_given 26 = .ok (.ifCond .ne 14, 3) := by decide +kernel
theorem d_X_given_29 : decode b_X_given 29 = .ok (.aload_n 0, 1) := by decide +kernel
theorem d_X_given_30 : decode b_X_given 30 = .ok (.getfield 45, 3) := by decide +kernel
theorem d_X_given_33 : decode b_X_given 33 = .ok (.iload_n 1, 1) := by decide +kernel
theorem d_X_given_34 : decode b_X_given 34 = .ok (.invokevirtual 182, 3) := by decide +kernel
theorem d_X_given_37 : decode b_X_given 37 = .ok (.goto 11, 3) := by decide +kernel
theorem d_X_given_40 : decode b_X_given 40 = .ok (.aload_n 0, 1) := by decide +kernel
theorem d_X_given_41 : decode b_X_given 41 = .ok (.getfield 45, 3) := by decide +kernel
theorem d_X_given_44 : decode b_X_given 44 = .ok (.iload_n 1, 1) := by decide +kernel
theorem d_X_given_45 : decode b_X_given 45 = .ok (.invokevirtual 185, 3) := by decide +kernel
theorem d_X_given_48 : decode b_X_given 48 = .ok (.ireturn, 1) := by decide +kernel
abbrev b_M_arrival : ByteArray := prog_7_method_9_code
def y_M_arrival : MethodName := ⟨"PassedOnAndBetter$Mind", "arrival", "(III)I"⟩
theorem m_M_arrival : MV y_M_arrival b_M_arrival 6 (some .int) 3 := ⟨mG 677 (by decide +kernel) (by decide +kernel), mG 90 (by decide +kernel) (by decide +kernel), by decide +kernel⟩
theorem mi_M_arrival : Cond.instanceMethod y_M_arrival ∈ tbG := mG 676 (by decide +kernel) (by decide +kernel)
theorem ms_M_arrival : Cond.selects y_M_arrival.cls y_M_arrival y_M_arrival ∈ tbG := mG 21 (by decide +kernel) (by decide +kernel)
theorem d_M_arrival_0 : decode b_M_arrival 0 = .ok (.aload_n 0, 1) := by decide +kernel
theorem d_M_arrival_1 : decode b_M_arrival 1 = .ok (.getfield 22, 3) := by decide +kernel
theorem d_M_arrival_4 : decode b_M_arrival 4 = .ok (.iload_n 1, 1) := by decide +kernel
theorem d_M_arrival_5 : decode b_M_arrival 5 = .ok (.invokevirtual 45, 3) := by decide +kernel
theorem d_M_arrival_8 : decode b_M_arrival 8 = .ok (.astore 4, 2) := by decide +kernel
theorem d_M_arrival_10 : decode b_M_arrival 10 = .ok (.iconst 0, 1) := by decide +kernel
theorem d_M_arrival_11 : decode b_M_arrival 11 = .ok (.istore 5, 2) := by decide +kernel
theorem d_M_arrival_13 : decode b_M_arrival 13 = .ok (.iload 5, 2) := by decide +kernel
theorem d_M_arrival_15 : decode b_M_arrival 15 = .ok (.iload_n 3, 1) := by decide +kernel
theorem d_M_arrival_16 : decode b_M_arrival 16 = .ok (.if_icmp .gt 30, 3) := by decide +kernel
theorem d_M_arrival_19 : decode b_M_arrival 19 = .ok (.aload 4, 2) := by decide +kernel
theorem d_M_arrival_21 : decode b_M_arrival 21 = .ok (.getfield 53, 3) := by decide +kernel
theorem d_M_arrival_24 : decode b_M_arrival 24 = .ok (.iload_n 2, 1) := by decide +kernel
theorem d_M_arrival_25 : decode b_M_arrival 25 = .ok (.if_icmp .ne 6, 3) := by decide +kernel
theorem d_M_arrival_28 : decode b_M_arrival 28 = .ok (.iload 5, 2) := by decide +kernel
theorem d_M_arrival_30 : decode b_M_arrival 30 = .ok (.ireturn, 1) := by decide +kernel
theorem d_M_arrival_31 : decode b_M_arrival 31 = .ok (.aload 4, 2) := by decide +kernel
theorem d_M_arrival_33 : decode b_M_arrival 33 = .ok (.aload_n 0, 1) := by decide +kernel
theorem d_M_arrival_34 : decode b_M_arrival 34 = .ok (.getfield 22, 3) := by decide +kernel
theorem d_M_arrival_37 : decode b_M_arrival 37 = .ok (.invokevirtual 36, 3) := by decide +kernel
theorem d_M_arrival_40 : decode b_M_arrival 40 = .ok (.iinc 5 1, 3) := by decide +kernel
theorem d_M_arrival_43 : decode b_M_arrival 43 = .ok (.goto (-30), 3) := by decide +kernel
theorem d_M_arrival_46 : decode b_M_arrival 46 = .ok (.bipush (-9), 2) := by decide +kernel
theorem d_M_arrival_48 : decode b_M_arrival 48 = .ok (.ireturn, 1) := by decide +kernel
abbrev b_M_firstWith : ByteArray := prog_7_method_8_code
def y_M_firstWith : MethodName := ⟨"PassedOnAndBetter$Mind", "firstWith", "(II)I"⟩
theorem m_M_firstWith : MV y_M_firstWith b_M_firstWith 3 (some .int) 2 := ⟨mG 673 (by decide +kernel) (by decide +kernel), mG 90 (by decide +kernel) (by decide +kernel), by decide +kernel⟩
theorem mi_M_firstWith : Cond.instanceMethod y_M_firstWith ∈ tbG := mG 671 (by decide +kernel) (by decide +kernel)
theorem ms_M_firstWith : Cond.selects y_M_firstWith.cls y_M_firstWith y_M_firstWith ∈ tbG := mG 672 (by decide +kernel) (by decide +kernel)
theorem d_M_firstWith_0 : decode b_M_firstWith 0 = .ok (.aload_n 0, 1) := by decide +kernel
theorem d_M_firstWith_1 : decode b_M_firstWith 1 = .ok (.invokevirtual 41, 3) := by decide +kernel
theorem d_M_firstWith_4 : decode b_M_firstWith 4 = .ok (.pop, 1) := by decide +kernel
theorem d_M_firstWith_5 : decode b_M_firstWith 5 = .ok (.aload_n 0, 1) := by decide +kernel
theorem d_M_firstWith_6 : decode b_M_firstWith 6 = .ok (.iload_n 1, 1) := by decide +kernel
theorem d_M_firstWith_7 : decode b_M_firstWith 7 = .ok (.iload_n 2, 1) := by decide +kernel
theorem d_M_firstWith_8 : decode b_M_firstWith 8 = .ok (.bipush 60, 2) := by decide +kernel
theorem d_M_firstWith_10 : decode b_M_firstWith 10 = .ok (.invokevirtual 78, 3) := by decide +kernel
theorem d_M_firstWith_13 : decode b_M_firstWith 13 = .ok (.ireturn, 1) := by decide +kernel
abbrev b_X_comes : ByteArray := prog_1_method_16_code
def y_X_comes : MethodName := ⟨"PassedOnAndBetter", "comes", "(II)I"⟩
theorem m_X_comes : MV y_X_comes b_X_comes 4 (some .int) 2 := ⟨mG 669 (by decide +kernel) (by decide +kernel), mG 83 (by decide +kernel) (by decide +kernel), by decide +kernel⟩
theorem mi_X_comes : Cond.instanceMethod y_X_comes ∈ tbG := mG 667 (by decide +kernel) (by decide +kernel)
theorem ms_X_comes : Cond.selects y_X_comes.cls y_X_comes y_X_comes ∈ tbG := mG 668 (by decide +kernel) (by decide +kernel)
theorem d_X_comes_0 : decode b_X_comes 0 = .ok (.aload_n 0, 1) := by decide +kernel
theorem d_X_comes_1 : decode b_X_comes 1 = .ok (.iload_n 1, 1) := by decide +kernel
theorem d_X_comes_2 : decode b_X_comes 2 = .ok (.invokevirtual 112, 3) := by decide +kernel
theorem d_X_comes_5 : decode b_X_comes 5 = .ok (.aload_n 0, 1) := by decide +kernel
theorem d_X_comes_6 : decode b_X_comes 6 = .ok (.iload_n 2, 1) := by decide +kernel
theorem d_X_comes_7 : decode b_X_comes 7 = .ok (.invokevirtual 90, 3) := by decide +kernel
theorem d_X_comes_10 : decode b_X_comes 10 = .ok (.iconst 0, 1) := by decide +kernel
theorem d_X_comes_11 : decode b_X_comes 11 = .ok (.invokestatic 97, 3) := by decide +kernel
theorem d_X_comes_14 : decode b_X_comes 14 = .ok (.istore_n 3, 1) := by decide +kernel
theorem d_X_comes_15 : decode b_X_comes 15 = .ok (.iload_n 3, 1) := by decide +kernel
theorem d_X_comes_16 : decode b_X_comes 16 = .ok (.ifCond .ne 15, 3) := by decide +kernel
theorem d_X_comes_19 : decode b_X_comes 19 = .ok (.aload_n 0, 1) := by decide +kernel
theorem d_X_comes_20 : decode b_X_comes 20 = .ok (.getfield 45, 3) := by decide +kernel
theorem d_X_comes_23 : decode b_X_comes 23 = .ok (.iload_n 1, 1) := by decide +kernel
theorem d_X_comes_24 : decode b_X_comes 24 = .ok (.iload_n 2, 1) := by decide +kernel
theorem d_X_comes_25 : decode b_X_comes 25 = .ok (.invokevirtual 188, 3) := by decide +kernel
theorem d_X_comes_28 : decode b_X_comes 28 = .ok (.goto 8, 3) := by decide +kernel
theorem d_X_comes_31 : decode b_X_comes 31 = .ok (.aload_n 0, 1) := by decide +kernel
theorem d_X_comes_32 : decode b_X_comes 32 = .ok (.iload_n 3, 1) := by decide +kernel
theorem d_X_comes_33 : decode b_X_comes 33 = .ok (.invokevirtual 69, 3) := by decide +kernel
theorem d_X_comes_36 : decode b_X_comes 36 = .ok (.ireturn, 1) := by decide +kernel
abbrev b_M_stuck : ByteArray := prog_7_method_10_code
def y_M_stuck : MethodName := ⟨"PassedOnAndBetter$Mind", "stuck", "()I"⟩
theorem m_M_stuck : MV y_M_stuck b_M_stuck 6 (some .int) 0 := ⟨mG 685 (by decide +kernel) (by decide +kernel), mG 90 (by decide +kernel) (by decide +kernel), by decide +kernel⟩
theorem mi_M_stuck : Cond.instanceMethod y_M_stuck ∈ tbG := mG 683 (by decide +kernel) (by decide +kernel)
theorem ms_M_stuck : Cond.selects y_M_stuck.cls y_M_stuck y_M_stuck ∈ tbG := mG 684 (by decide +kernel) (by decide +kernel)
theorem d_M_stuck_0 : decode b_M_stuck 0 = .ok (.iconst 0, 1) := by decide +kernel
theorem d_M_stuck_1 : decode b_M_stuck 1 = .ok (.istore_n 1, 1) := by decide +kernel
theorem d_M_stuck_2 : decode b_M_stuck 2 = .ok (.aload_n 0, 1) := by decide +kernel
theorem d_M_stuck_3 : decode b_M_stuck 3 = .ok (.invokevirtual 41, 3) := by decide +kernel
theorem d_M_stuck_6 : decode b_M_stuck 6 = .ok (.pop, 1) := by decide +kernel
theorem d_M_stuck_7 : decode b_M_stuck 7 = .ok (.iconst 0, 1) := by decide +kernel
theorem d_M_stuck_8 : decode b_M_stuck 8 = .ok (.istore_n 2, 1) := by decide +kernel
theorem d_M_stuck_9 : decode b_M_stuck 9 = .ok (.iload_n 2, 1) := by decide +kernel
theorem d_M_stuck_10 : decode b_M_stuck 10 = .ok (.aload_n 0, 1) := by decide +kernel
theorem d_M_stuck_11 : decode b_M_stuck 11 = .ok (.getfield 22, 3) := by decide +kernel
theorem d_M_stuck_14 : decode b_M_stuck 14 = .ok (.getfield 82, 3) := by decide +kernel
theorem d_M_stuck_17 : decode b_M_stuck 17 = .ok (.if_icmp .ge 80, 3) := by decide +kernel
theorem d_M_stuck_20 : decode b_M_stuck 20 = .ok (.aload_n 0, 1) := by decide +kernel
theorem d_M_stuck_21 : decode b_M_stuck 21 = .ok (.getfield 22, 3) := by decide +kernel
theorem d_M_stuck_24 : decode b_M_stuck 24 = .ok (.iload_n 2, 1) := by decide +kernel
theorem d_M_stuck_25 : decode b_M_stuck 25 = .ok (.invokevirtual 45, 3) := by decide +kernel
theorem d_M_stuck_28 : decode b_M_stuck 28 = .ok (.astore_n 3, 1) := by decide +kernel
theorem d_M_stuck_29 : decode b_M_stuck 29 = .ok (.aload_n 3, 1) := by decide +kernel
theorem d_M_stuck_30 : decode b_M_stuck 30 = .ok (.getfield 53, 3) := by decide +kernel
theorem d_M_stuck_33 : decode b_M_stuck 33 = .ok (.istore 4, 2) := by decide +kernel
theorem d_M_stuck_35 : decode b_M_stuck 35 = .ok (.aload_n 3, 1) := by decide +kernel
theorem d_M_stuck_36 : decode b_M_stuck 36 = .ok (.getfield 85, 3) := by decide +kernel
theorem d_M_stuck_39 : decode b_M_stuck 39 = .ok (.iconst 1, 1) := by decide +kernel
theorem d_M_stuck_40 : decode b_M_stuck 40 = .ok (.iadd, 1) := by decide +kernel
theorem d_M_stuck_41 : decode b_M_stuck 41 = .ok (.aload_n 0, 1) := by decide +kernel
theorem d_M_stuck_42 : decode b_M_stuck 42 = .ok (.getfield 22, 3) := by decide +kernel
theorem d_M_stuck_45 : decode b_M_stuck 45 = .ok (.iload 4, 2) := by decide +kernel
theorem d_M_stuck_47 : decode b_M_stuck 47 = .ok (.invokevirtual 88, 3) := by decide +kernel
theorem d_M_stuck_50 : decode b_M_stuck 50 = .ok (.getfield 92, 3) := by decide +kernel
theorem d_M_stuck_53 : decode b_M_stuck 53 = .ok (.if_icmp .lt 7, 3) := by decide +kernel
theorem d_M_stuck_56 : decode b_M_stuck 56 = .ok (.iconst 1, 1) := by decide +kernel
theorem d_M_stuck_57 : decode b_M_stuck 57 = .ok (.goto 4, 3) := by decide +kernel
theorem d_M_stuck_60 : decode b_M_stuck 60 = .ok (.iconst 0, 1) := by decide +kernel
theorem d_M_stuck_61 : decode b_M_stuck 61 = .ok (.istore 5, 2) := by decide +kernel
theorem d_M_stuck_63 : decode b_M_stuck 63 = .ok (.aload_n 3, 1) := by decide +kernel
theorem d_M_stuck_64 : decode b_M_stuck 64 = .ok (.aload_n 0, 1) := by decide +kernel
theorem d_M_stuck_65 : decode b_M_stuck 65 = .ok (.getfield 22, 3) := by decide +kernel
theorem d_M_stuck_68 : decode b_M_stuck 68 = .ok (.invokevirtual 36, 3) := by decide +kernel
theorem d_M_stuck_71 : decode b_M_stuck 71 = .ok (.iload 5, 2) := by decide +kernel
theorem d_M_stuck_73 : decode b_M_stuck 73 = .ok (.ifCond .eq 18, 3) := by decide +kernel
theorem d_M_stuck_76 : decode b_M_stuck 76 = .ok (.aload_n 3, 1) := by decide +kernel
theorem d_M_stuck_77 : decode b_M_stuck 77 = .ok (.getfield 53, 3) := by decide +kernel
theorem d_M_stuck_80 : decode b_M_stuck 80 = .ok (.iload 4, 2) := by decide +kernel
theorem d_M_stuck_82 : decode b_M_stuck 82 = .ok (.if_icmp .ne 9, 3) := by decide +kernel
theorem d_M_stuck_85 : decode b_M_stuck 85 = .ok (.iload_n 1, 1) := by decide +kernel
theorem d_M_stuck_86 : decode b_M_stuck 86 = .ok (.iconst 1, 1) := by decide +kernel
theorem d_M_stuck_87 : decode b_M_stuck 87 = .ok (.iload_n 2, 1) := by decide +kernel
theorem d_M_stuck_88 : decode b_M_stuck 88 = .ok (.ishl, 1) := by decide +kernel
theorem d_M_stuck_89 : decode b_M_stuck 89 = .ok (.ior, 1) := by decide +kernel
theorem d_M_stuck_90 : decode b_M_stuck 90 = .ok (.istore_n 1, 1) := by decide +kernel
theorem d_M_stuck_91 : decode b_M_stuck 91 = .ok (.iinc 2 1, 3) := by decide +kernel
theorem d_M_stuck_94 : decode b_M_stuck 94 = .ok (.goto (-85), 3) := by decide +kernel
theorem d_M_stuck_97 : decode b_M_stuck 97 = .ok (.iload_n 1, 1) := by decide +kernel
theorem d_M_stuck_98 : decode b_M_stuck 98 = .ok (.ireturn, 1) := by decide +kernel
abbrev b_X_sticks : ByteArray := prog_1_method_17_code
def y_X_sticks : MethodName := ⟨"PassedOnAndBetter", "sticks", "()I"⟩
theorem m_X_sticks : MV y_X_sticks b_X_sticks 1 (some .int) 0 := ⟨mG 681 (by decide +kernel) (by decide +kernel), mG 83 (by decide +kernel) (by decide +kernel), by decide +kernel⟩
theorem mi_X_sticks : Cond.instanceMethod y_X_sticks ∈ tbG := mG 679 (by decide +kernel) (by decide +kernel)
theorem ms_X_sticks : Cond.selects y_X_sticks.cls y_X_sticks y_X_sticks ∈ tbG := mG 680 (by decide +kernel) (by decide +kernel)
theorem d_X_sticks_0 : decode b_X_sticks 0 = .ok (.aload_n 0, 1) := by decide +kernel
theorem d_X_sticks_1 : decode b_X_sticks 1 = .ok (.getfield 45, 3) := by decide +kernel
theorem d_X_sticks_4 : decode b_X_sticks 4 = .ok (.invokevirtual 191, 3) := by decide +kernel
theorem d_X_sticks_7 : decode b_X_sticks 7 = .ok (.ireturn, 1) := by decide +kernel
abbrev b_M_startOfMostWorth : ByteArray := prog_7_method_11_code
def y_M_startOfMostWorth : MethodName := ⟨"PassedOnAndBetter$Mind", "startOfMostWorth", "(III)I"⟩
theorem m_M_startOfMostWorth : MV y_M_startOfMostWorth b_M_startOfMostWorth 8 (some .int) 3 := ⟨mG 694 (by decide +kernel) (by decide +kernel), mG 90 (by decide +kernel) (by decide +kernel), by decide +kernel⟩
theorem mi_M_startOfMostWorth : Cond.instanceMethod y_M_startOfMostWorth ∈ tbG := mG 692 (by decide +kernel) (by decide +kernel)
theorem ms_M_startOfMostWorth : Cond.selects y_M_startOfMostWorth.cls y_M_startOfMostWorth y_M_startOfMostWorth ∈ tbG := mG 693 (by decide +kernel) (by decide +kernel)
theorem d_M_startOfMostWorth_0 : decode b_M_startOfMostWorth 0 = .ok (.bipush (-9), 2) := by decide +kernel
theorem d_M_startOfMostWorth_2 : decode b_M_startOfMostWorth 2 = .ok (.istore 4, 2) := by decide +kernel
theorem d_M_startOfMostWorth_4 : decode b_M_startOfMostWorth 4 = .ok (.iconst (-1), 1) := by decide +kernel
theorem d_M_startOfMostWorth_5 : decode b_M_startOfMostWorth 5 = .ok (.istore 5, 2) := by decide +kernel
theorem d_M_startOfMostWorth_7 : decode b_M_startOfMostWorth 7 = .ok (.iconst 0, 1) := by decide +kernel
theorem d_M_startOfMostWorth_8 : decode b_M_startOfMostWorth 8 = .ok (.istore 6, 2) := by decide +kernel
theorem d_M_startOfMostWorth_10 : decode b_M_startOfMostWorth 10 = .ok (.iload 6, 2) := by decide +kernel
theorem d_M_startOfMostWorth_12 : decode b_M_startOfMostWorth 12 = .ok (.aload_n 0, 1) := by decide +kernel
theorem d_M_startOfMostWorth_13 : decode b_M_startOfMostWorth 13 = .ok (.getfield 9, 3) := by decide +kernel
theorem d_M_startOfMostWorth_16 : decode b_M_startOfMostWorth 16 = .ok (.getfield 97, 3) := by decide +kernel
theorem d_M_startOfMostWorth_19 : decode b_M_startOfMostWorth 19 = .ok (.if_icmp .ge 54, 3) := by decide +kernel
theorem d_M_startOfMostWorth_22 : decode b_M_startOfMostWorth 22 = .ok (.aload_n 0, 1) := by decide +kernel
theorem d_M_startOfMostWorth_23 : decode b_M_startOfMostWorth 23 = .ok (.invokevirtual 41, 3) := by decide +kernel
theorem d_M_startOfMostWorth_26 : decode b_M_startOfMostWorth 26 = .ok (.iload_n 1, 1) := by decide +kernel
theorem d_M_startOfMostWorth_27 : decode b_M_startOfMostWorth 27 = .ok (.invokevirtual 45, 3) := by decide +kernel
theorem d_M_startOfMostWorth_30 : decode b_M_startOfMostWorth 30 = .ok (.astore 7, 2) := by decide +kernel
theorem d_M_startOfMostWorth_32 : decode b_M_startOfMostWorth 32 = .ok (.aload 7, 2) := by decide +kernel
theorem d_M_startOfMostWorth_34 : decode b_M_startOfMostWorth 34 = .ok (.iload 6, 2) := by decide +kernel
theorem d_M_startOfMostWorth_36 : decode b_M_startOfMostWorth 36 = .ok (.invokevirtual 100, 3) := by decide +kernel
theorem d_M_startOfMostWorth_39 : decode b_M_startOfMostWorth 39 = .ok (.aload_n 0, 1) := by decide +kernel
theorem d_M_startOfMostWorth_40 : decode b_M_startOfMostWorth 40 = .ok (.aload 7, 2) := by decide +kernel
theorem d_M_startOfMostWorth_42 : decode b_M_startOfMostWorth 42 = .ok (.iload_n 2, 1) := by decide +kernel
theorem d_M_startOfMostWorth_43 : decode b_M_startOfMostWorth 43 = .ok (.invokevirtual 49, 3) := by decide +kernel
theorem d_M_startOfMostWorth_46 : decode b_M_startOfMostWorth 46 = .ok (.aload 7, 2) := by decide +kernel
theorem d_M_startOfMostWorth_48 : decode b_M_startOfMostWorth 48 = .ok (.getfield 57, 3) := by decide +kernel
theorem d_M_startOfMostWorth_51 : decode b_M_startOfMostWorth 51 = .ok (.iload 5, 2) := by decide +kernel
theorem d_M_startOfMostWorth_53 : decode b_M_startOfMostWorth 53 = .ok (.if_icmp .le 14, 3) := by decide +kernel
theorem d_M_startOfMostWorth_56 : decode b_M_startOfMostWorth 56 = .ok (.aload 7, 2) := by decide +kernel
theorem d_M_startOfMostWorth_58 : decode b_M_startOfMostWorth 58 = .ok (.getfield 57, 3) := by decide +kernel
theorem d_M_startOfMostWorth_61 : decode b_M_startOfMostWorth 61 = .ok (.istore 5, 2) := by decide +kernel
theorem d_M_startOfMostWorth_63 : decode b_M_startOfMostWorth 63 = .ok (.iload 6, 2) := by decide +kernel
theorem d_M_startOfMostWorth_65 : decode b_M_startOfMostWorth 65 = .ok (.istore 4, 2) := by decide +kernel
theorem d_M_startOfMostWorth_67 : decode b_M_startOfMostWorth 67 = .ok (.iinc 6 1, 3) := by decide +kernel
theorem d_M_startOfMostWorth_70 : decode b_M_startOfMostWorth 70 = .ok (.goto (-60), 3) := by decide +kernel
theorem d_M_startOfMostWorth_73 : decode b_M_startOfMostWorth 73 = .ok (.iload_n 3, 1) := by decide +kernel
theorem d_M_startOfMostWorth_74 : decode b_M_startOfMostWorth 74 = .ok (.ifCond .ne 8, 3) := by decide +kernel
theorem d_M_startOfMostWorth_77 : decode b_M_startOfMostWorth 77 = .ok (.iload 4, 2) := by decide +kernel
theorem d_M_startOfMostWorth_79 : decode b_M_startOfMostWorth 79 = .ok (.goto 5, 3) := by decide +kernel
theorem d_M_startOfMostWorth_82 : decode b_M_startOfMostWorth 82 = .ok (.iload 5, 2) := by decide +kernel
theorem d_M_startOfMostWorth_84 : decode b_M_startOfMostWorth 84 = .ok (.ireturn, 1) := by decide +kernel
abbrev b_X_bestStart : ByteArray := prog_1_method_18_code
def y_X_bestStart : MethodName := ⟨"PassedOnAndBetter", "bestStart", "(III)I"⟩
theorem m_X_bestStart : MV y_X_bestStart b_X_bestStart 5 (some .int) 3 := ⟨mG 690 (by decide +kernel) (by decide +kernel), mG 83 (by decide +kernel) (by decide +kernel), by decide +kernel⟩
theorem mi_X_bestStart : Cond.instanceMethod y_X_bestStart ∈ tbG := mG 688 (by decide +kernel) (by decide +kernel)
theorem ms_X_bestStart : Cond.selects y_X_bestStart.cls y_X_bestStart y_X_bestStart ∈ tbG := mG 689 (by decide +kernel) (by decide +kernel)
theorem d_X_bestStart_0 : decode b_X_bestStart 0 = .ok (.aload_n 0, 1) := by decide +kernel
theorem d_X_bestStart_1 : decode b_X_bestStart 1 = .ok (.iload_n 1, 1) := by decide +kernel
theorem d_X_bestStart_2 : decode b_X_bestStart 2 = .ok (.invokevirtual 112, 3) := by decide +kernel
theorem d_X_bestStart_5 : decode b_X_bestStart 5 = .ok (.iload_n 2, 1) := by decide +kernel
theorem d_X_bestStart_6 : decode b_X_bestStart 6 = .ok (.invokestatic 170, 3) := by decide +kernel
theorem d_X_bestStart_9 : decode b_X_bestStart 9 = .ok (.iload_n 3, 1) := by decide +kernel
theorem d_X_bestStart_10 : decode b_X_bestStart 10 = .ok (.iconst 1, 1) := by decide +kernel
theorem d_X_bestStart_11 : decode b_X_bestStart 11 = .ok (.invokestatic 93, 3) := by decide +kernel
theorem d_X_bestStart_14 : decode b_X_bestStart 14 = .ok (.invokestatic 97, 3) := by decide +kernel
theorem d_X_bestStart_17 : decode b_X_bestStart 17 = .ok (.istore 4, 2) := by decide +kernel
theorem d_X_bestStart_19 : decode b_X_bestStart 19 = .ok (.iload 4, 2) := by decide +kernel
theorem d_X_bestStart_21 : decode b_X_bestStart 21 = .ok (.ifCond .ne 16, 3) := by decide +kernel
theorem d_X_bestStart_24 : decode b_X_bestStart 24 = .ok (.aload_n 0, 1) := by decide +kernel
theorem d_X_bestStart_25 : decode b_X_bestStart 25 = .ok (.getfield 45, 3) := by decide +kernel
theorem d_X_bestStart_28 : decode b_X_bestStart 28 = .ok (.iload_n 1, 1) := by decide +kernel
theorem d_X_bestStart_29 : decode b_X_bestStart 29 = .ok (.iload_n 2, 1) := by decide +kernel
theorem d_X_bestStart_30 : decode b_X_bestStart 30 = .ok (.iload_n 3, 1) := by decide +kernel
theorem d_X_bestStart_31 : decode b_X_bestStart 31 = .ok (.invokevirtual 194, 3) := by decide +kernel
theorem d_X_bestStart_34 : decode b_X_bestStart 34 = .ok (.goto 9, 3) := by decide +kernel
theorem d_X_bestStart_37 : decode b_X_bestStart 37 = .ok (.aload_n 0, 1) := by decide +kernel
theorem d_X_bestStart_38 : decode b_X_bestStart 38 = .ok (.iload 4, 2) := by decide +kernel
theorem d_X_bestStart_40 : decode b_X_bestStart 40 = .ok (.invokevirtual 69, 3) := by decide +kernel
theorem d_X_bestStart_43 : decode b_X_bestStart 43 = .ok (.ireturn, 1) := by decide +kernel
abbrev b_M_worthWithNext : ByteArray := prog_7_method_13_code
def y_M_worthWithNext : MethodName := ⟨"PassedOnAndBetter$Mind", "worthWithNext", "(III)I"⟩
theorem m_M_worthWithNext : MV y_M_worthWithNext b_M_worthWithNext 4 (some .int) 3 := ⟨mG 707 (by decide +kernel) (by decide +kernel), mG 90 (by decide +kernel) (by decide +kernel), by decide +kernel⟩
theorem mi_M_worthWithNext : Cond.instanceMethod y_M_worthWithNext ∈ tbG := mG 706 (by decide +kernel) (by decide +kernel)
theorem ms_M_worthWithNext : Cond.selects y_M_worthWithNext.cls y_M_worthWithNext y_M_worthWithNext ∈ tbG := mG 22 (by decide +kernel) (by decide +kernel)
theorem d_M_worthWithNext_0 : decode b_M_worthWithNext 0 = .ok (.aload_n 0, 1) := by decide +kernel
theorem d_M_worthWithNext_1 : decode b_M_worthWithNext 1 = .ok (.invokevirtual 41, 3) := by decide +kernel
theorem d_M_worthWithNext_4 : decode b_M_worthWithNext 4 = .ok (.iload_n 1, 1) := by decide +kernel
theorem d_M_worthWithNext_5 : decode b_M_worthWithNext 5 = .ok (.invokevirtual 88, 3) := by decide +kernel
theorem d_M_worthWithNext_8 : decode b_M_worthWithNext 8 = .ok (.iload_n 2, 1) := by decide +kernel
theorem d_M_worthWithNext_9 : decode b_M_worthWithNext 9 = .ok (.putfield 106, 3) := by decide +kernel
theorem d_M_worthWithNext_12 : decode b_M_worthWithNext 12 = .ok (.aload_n 0, 1) := by decide +kernel
theorem d_M_worthWithNext_13 : decode b_M_worthWithNext 13 = .ok (.getfield 22, 3) := by decide +kernel
theorem d_M_worthWithNext_16 : decode b_M_worthWithNext 16 = .ok (.iload_n 3, 1) := by decide +kernel
theorem d_M_worthWithNext_17 : decode b_M_worthWithNext 17 = .ok (.invokevirtual 66, 3) := by decide +kernel
theorem d_M_worthWithNext_20 : decode b_M_worthWithNext 20 = .ok (.aload_n 0, 1) := by decide +kernel
theorem d_M_worthWithNext_21 : decode b_M_worthWithNext 21 = .ok (.getfield 22, 3) := by decide +kernel
theorem d_M_worthWithNext_24 : decode b_M_worthWithNext 24 = .ok (.invokevirtual 70, 3) := by decide +kernel
theorem d_M_worthWithNext_27 : decode b_M_worthWithNext 27 = .ok (.ireturn, 1) := by decide +kernel
abbrev b_M_nextOfMostWorth : ByteArray := prog_7_method_12_code
def y_M_nextOfMostWorth : MethodName := ⟨"PassedOnAndBetter$Mind", "nextOfMostWorth", "(III)I"⟩
theorem m_M_nextOfMostWorth : MV y_M_nextOfMostWorth b_M_nextOfMostWorth 8 (some .int) 3 := ⟨mG 703 (by decide +kernel) (by decide +kernel), mG 90 (by decide +kernel) (by decide +kernel), by decide +kernel⟩
theorem mi_M_nextOfMostWorth : Cond.instanceMethod y_M_nextOfMostWorth ∈ tbG := mG 701 (by decide +kernel) (by decide +kernel)
theorem ms_M_nextOfMostWorth : Cond.selects y_M_nextOfMostWorth.cls y_M_nextOfMostWorth y_M_nextOfMostWorth ∈ tbG := mG 702 (by decide +kernel) (by decide +kernel)
theorem d_M_nextOfMostWorth_0 : decode b_M_nextOfMostWorth 0 = .ok (.bipush 9, 2) := by decide +kernel
theorem d_M_nextOfMostWorth_2 : decode b_M_nextOfMostWorth 2 = .ok (.istore 4, 2) := by decide +kernel
theorem d_M_nextOfMostWorth_4 : decode b_M_nextOfMostWorth 4 = .ok (.iconst (-1), 1) := by decide +kernel
theorem d_M_nextOfMostWorth_5 : decode b_M_nextOfMostWorth 5 = .ok (.istore 5, 2) := by decide +kernel
theorem d_M_nextOfMostWorth_7 : decode b_M_nextOfMostWorth 7 = .ok (.iconst 0, 1) := by decide +kernel
theorem d_M_nextOfMostWorth_8 : decode b_M_nextOfMostWorth 8 = .ok (.istore 6, 2) := by decide +kernel
theorem d_M_nextOfMostWorth_10 : decode b_M_nextOfMostWorth 10 = .ok (.iload 6, 2) := by decide +kernel
theorem d_M_nextOfMostWorth_12 : decode b_M_nextOfMostWorth 12 = .ok (.aload_n 0, 1) := by decide +kernel
theorem d_M_nextOfMostWorth_13 : decode b_M_nextOfMostWorth 13 = .ok (.getfield 9, 3) := by decide +kernel
theorem d_M_nextOfMostWorth_16 : decode b_M_nextOfMostWorth 16 = .ok (.getfield 97, 3) := by decide +kernel
theorem d_M_nextOfMostWorth_19 : decode b_M_nextOfMostWorth 19 = .ok (.if_icmp .ge 44, 3) := by decide +kernel
theorem d_M_nextOfMostWorth_22 : decode b_M_nextOfMostWorth 22 = .ok (.iload 6, 2) := by decide +kernel
theorem d_M_nextOfMostWorth_24 : decode b_M_nextOfMostWorth 24 = .ok (.iload_n 1, 1) := by decide +kernel
theorem d_M_nextOfMostWorth_25 : decode b_M_nextOfMostWorth 25 = .ok (.if_icmp .ne 7, 3) := by decide +kernel
theorem d_M_nextOfMostWorth_28 : decode b_M_nextOfMostWorth 28 = .ok (.iconst (-1), 1) := by decide +kernel
theorem d_M_nextOfMostWorth_29 : decode b_M_nextOfMostWorth 29 = .ok (.goto 11, 3) := by decide +kernel
theorem d_M_nextOfMostWorth_32 : decode b_M_nextOfMostWorth 32 = .ok (.aload_n 0, 1) := by decide +kernel
theorem d_M_nextOfMostWorth_33 : decode b_M_nextOfMostWorth 33 = .ok (.iload_n 1, 1) := by decide +kernel
theorem d_M_nextOfMostWorth_34 : decode b_M_nextOfMostWorth 34 = .ok (.iload 6, 2) := by decide +kernel
theorem d_M_nextOfMostWorth_36 : decode b_M_nextOfMostWorth 36 = .ok (.iload_n 2, 1) := by decide +kernel
theorem d_M_nextOfMostWorth_37 : decode b_M_nextOfMostWorth 37 = .ok (.invokevirtual 103, 3) := by decide +kernel
theorem d_M_nextOfMostWorth_40 : decode b_M_nextOfMostWorth 40 = .ok (.istore 7, 2) := by decide +kernel
theorem d_M_nextOfMostWorth_42 : decode b_M_nextOfMostWorth 42 = .ok (.iload 7, 2) := by decide +kernel
theorem d_M_nextOfMostWorth_44 : decode b_M_nextOfMostWorth 44 = .ok (.iload 5, 2) := by decide +kernel
theorem d_M_nextOfMostWorth_46 : decode b_M_nextOfMostWorth 46 = .ok (.if_icmp .le 11, 3) := by decide +kernel
theorem d_M_nextOfMostWorth_49 : decode b_M_nextOfMostWorth 49 = .ok (.iload 7, 2) := by decide +kernel
theorem d_M_nextOfMostWorth_51 : decode b_M_nextOfMostWorth 51 = .ok (.istore 5, 2) := by decide +kernel
theorem d_M_nextOfMostWorth_53 : decode b_M_nextOfMostWorth 53 = .ok (.iload 6, 2) := by decide +kernel
theorem d_M_nextOfMostWorth_55 : decode b_M_nextOfMostWorth 55 = .ok (.istore 4, 2) := by decide +kernel
theorem d_M_nextOfMostWorth_57 : decode b_M_nextOfMostWorth 57 = .ok (.iinc 6 1, 3) := by decide +kernel
theorem d_M_nextOfMostWorth_60 : decode b_M_nextOfMostWorth 60 = .ok (.goto (-50), 3) := by decide +kernel
theorem d_M_nextOfMostWorth_63 : decode b_M_nextOfMostWorth 63 = .ok (.aload_n 0, 1) := by decide +kernel
theorem d_M_nextOfMostWorth_64 : decode b_M_nextOfMostWorth 64 = .ok (.iload_n 1, 1) := by decide +kernel
theorem d_M_nextOfMostWorth_65 : decode b_M_nextOfMostWorth 65 = .ok (.iconst (-1), 1) := by decide +kernel
theorem d_M_nextOfMostWorth_66 : decode b_M_nextOfMostWorth 66 = .ok (.iload_n 2, 1) := by decide +kernel
theorem d_M_nextOfMostWorth_67 : decode b_M_nextOfMostWorth 67 = .ok (.invokevirtual 103, 3) := by decide +kernel
theorem d_M_nextOfMostWorth_70 : decode b_M_nextOfMostWorth 70 = .ok (.istore 6, 2) := by decide +kernel
theorem d_M_nextOfMostWorth_72 : decode b_M_nextOfMostWorth 72 = .ok (.iload 6, 2) := by decide +kernel
theorem d_M_nextOfMostWorth_74 : decode b_M_nextOfMostWorth 74 = .ok (.iload 5, 2) := by decide +kernel
theorem d_M_nextOfMostWorth_76 : decode b_M_nextOfMostWorth 76 = .ok (.if_icmp .le 11, 3) := by decide +kernel
theorem d_M_nextOfMostWorth_79 : decode b_M_nextOfMostWorth 79 = .ok (.iload 6, 2) := by decide +kernel
theorem d_M_nextOfMostWorth_81 : decode b_M_nextOfMostWorth 81 = .ok (.istore 5, 2) := by decide +kernel
theorem d_M_nextOfMostWorth_83 : decode b_M_nextOfMostWorth 83 = .ok (.bipush 9, 2) := by decide +kernel
theorem d_M_nextOfMostWorth_85 : decode b_M_nextOfMostWorth 85 = .ok (.istore 4, 2) := by decide +kernel
theorem d_M_nextOfMostWorth_87 : decode b_M_nextOfMostWorth 87 = .ok (.iload_n 3, 1) := by decide +kernel
theorem d_M_nextOfMostWorth_88 : decode b_M_nextOfMostWorth 88 = .ok (.ifCond .ne 8, 3) := by decide +kernel
theorem d_M_nextOfMostWorth_91 : decode b_M_nextOfMostWorth 91 = .ok (.iload 4, 2) := by decide +kernel
theorem d_M_nextOfMostWorth_93 : decode b_M_nextOfMostWorth 93 = .ok (.goto 5, 3) := by decide +kernel
theorem d_M_nextOfMostWorth_96 : decode b_M_nextOfMostWorth 96 = .ok (.iload 5, 2) := by decide +kernel
theorem d_M_nextOfMostWorth_98 : decode b_M_nextOfMostWorth 98 = .ok (.ireturn, 1) := by decide +kernel
abbrev b_X_bestNext : ByteArray := prog_1_method_19_code
def y_X_bestNext : MethodName := ⟨"PassedOnAndBetter", "bestNext", "(III)I"⟩
theorem m_X_bestNext : MV y_X_bestNext b_X_bestNext 5 (some .int) 3 := ⟨mG 699 (by decide +kernel) (by decide +kernel), mG 83 (by decide +kernel) (by decide +kernel), by decide +kernel⟩
theorem mi_X_bestNext : Cond.instanceMethod y_X_bestNext ∈ tbG := mG 697 (by decide +kernel) (by decide +kernel)
theorem ms_X_bestNext : Cond.selects y_X_bestNext.cls y_X_bestNext y_X_bestNext ∈ tbG := mG 698 (by decide +kernel) (by decide +kernel)
theorem d_X_bestNext_0 : decode b_X_bestNext 0 = .ok (.aload_n 0, 1) := by decide +kernel
theorem d_X_bestNext_1 : decode b_X_bestNext 1 = .ok (.iload_n 1, 1) := by decide +kernel
theorem d_X_bestNext_2 : decode b_X_bestNext 2 = .ok (.invokevirtual 90, 3) := by decide +kernel
theorem d_X_bestNext_5 : decode b_X_bestNext 5 = .ok (.iload_n 2, 1) := by decide +kernel
theorem d_X_bestNext_6 : decode b_X_bestNext 6 = .ok (.invokestatic 170, 3) := by decide +kernel
theorem d_X_bestNext_9 : decode b_X_bestNext 9 = .ok (.iload_n 3, 1) := by decide +kernel
theorem d_X_bestNext_10 : decode b_X_bestNext 10 = .ok (.iconst 1, 1) := by decide +kernel
theorem d_X_bestNext_11 : decode b_X_bestNext 11 = .ok (.invokestatic 93, 3) := by decide +kernel
theorem d_X_bestNext_14 : decode b_X_bestNext 14 = .ok (.invokestatic 97, 3) := by decide +kernel
theorem d_X_bestNext_17 : decode b_X_bestNext 17 = .ok (.istore 4, 2) := by decide +kernel
theorem d_X_bestNext_19 : decode b_X_bestNext 19 = .ok (.iload 4, 2) := by decide +kernel
theorem d_X_bestNext_21 : decode b_X_bestNext 21 = .ok (.ifCond .ne 16, 3) := by decide +kernel
theorem d_X_bestNext_24 : decode b_X_bestNext 24 = .ok (.aload_n 0, 1) := by decide +kernel
theorem d_X_bestNext_25 : decode b_X_bestNext 25 = .ok (.getfield 45, 3) := by decide +kernel
theorem d_X_bestNext_28 : decode b_X_bestNext 28 = .ok (.iload_n 1, 1) := by decide +kernel
theorem d_X_bestNext_29 : decode b_X_bestNext 29 = .ok (.iload_n 2, 1) := by decide +kernel
theorem d_X_bestNext_30 : decode b_X_bestNext 30 = .ok (.iload_n 3, 1) := by decide +kernel
theorem d_X_bestNext_31 : decode b_X_bestNext 31 = .ok (.invokevirtual 197, 3) := by decide +kernel
theorem d_X_bestNext_34 : decode b_X_bestNext 34 = .ok (.goto 9, 3) := by decide +kernel
theorem d_X_bestNext_37 : decode b_X_bestNext 37 = .ok (.aload_n 0, 1) := by decide +kernel
theorem d_X_bestNext_38 : decode b_X_bestNext 38 = .ok (.iload 4, 2) := by decide +kernel
theorem d_X_bestNext_40 : decode b_X_bestNext 40 = .ok (.invokevirtual 69, 3) := by decide +kernel
theorem d_X_bestNext_43 : decode b_X_bestNext 43 = .ok (.ireturn, 1) := by decide +kernel
abbrev b_I_bitCount : ByteArray := prog_12_method_49_code
def y_I_bitCount : MethodName := ⟨"java/lang/Integer", "bitCount", "(I)I"⟩
theorem m_I_bitCount : MV y_I_bitCount b_I_bitCount 1 (some .int) 1 := ⟨mG 718 (by decide +kernel) (by decide +kernel), mG 94 (by decide +kernel) (by decide +kernel), by decide +kernel⟩
theorem mi_I_bitCount : Cond.static y_I_bitCount ∈ tbG := mG 717 (by decide +kernel) (by decide +kernel)
theorem d_I_bitCount_0 : decode b_I_bitCount 0 = .ok (.iload_n 0, 1) := by decide +kernel
theorem d_I_bitCount_1 : decode b_I_bitCount 1 = .ok (.iload_n 0, 1) := by decide +kernel
theorem d_I_bitCount_2 : decode b_I_bitCount 2 = .ok (.iconst 1, 1) := by decide +kernel
theorem d_I_bitCount_3 : decode b_I_bitCount 3 = .ok (.iushr, 1) := by decide +kernel
theorem d_I_bitCount_4 : decode b_I_bitCount 4 = .ok (.ldc_w 265, 3) := by decide +kernel
theorem d_I_bitCount_7 : decode b_I_bitCount 7 = .ok (.iand, 1) := by decide +kernel
theorem d_I_bitCount_8 : decode b_I_bitCount 8 = .ok (.isub, 1) := by decide +kernel
theorem d_I_bitCount_9 : decode b_I_bitCount 9 = .ok (.istore_n 0, 1) := by decide +kernel
theorem d_I_bitCount_10 : decode b_I_bitCount 10 = .ok (.iload_n 0, 1) := by decide +kernel
theorem d_I_bitCount_11 : decode b_I_bitCount 11 = .ok (.ldc_w 266, 3) := by decide +kernel
theorem d_I_bitCount_14 : decode b_I_bitCount 14 = .ok (.iand, 1) := by decide +kernel
theorem d_I_bitCount_15 : decode b_I_bitCount 15 = .ok (.iload_n 0, 1) := by decide +kernel
theorem d_I_bitCount_16 : decode b_I_bitCount 16 = .ok (.iconst 2, 1) := by decide +kernel
theorem d_I_bitCount_17 : decode b_I_bitCount 17 = .ok (.iushr, 1) := by decide +kernel
theorem d_I_bitCount_18 : decode b_I_bitCount 18 = .ok (.ldc_w 266, 3) := by decide +kernel
theorem d_I_bitCount_21 : decode b_I_bitCount 21 = .ok (.iand, 1) := by decide +kernel
theorem d_I_bitCount_22 : decode b_I_bitCount 22 = .ok (.iadd, 1) := by decide +kernel
theorem d_I_bitCount_23 : decode b_I_bitCount 23 = .ok (.istore_n 0, 1) := by decide +kernel
theorem d_I_bitCount_24 : decode b_I_bitCount 24 = .ok (.iload_n 0, 1) := by decide +kernel
theorem d_I_bitCount_25 : decode b_I_bitCount 25 = .ok (.iload_n 0, 1) := by decide +kernel
theorem d_I_bitCount_26 : decode b_I_bitCount 26 = .ok (.iconst 4, 1) := by decide +kernel
theorem d_I_bitCount_27 : decode b_I_bitCount 27 = .ok (.iushr, 1) := by decide +kernel
theorem d_I_bitCount_28 : decode b_I_bitCount 28 = .ok (.iadd, 1) := by decide +kernel
theorem d_I_bitCount_29 : decode b_I_bitCount 29 = .ok (.ldc_w 267, 3) := by decide +kernel
theorem d_I_bitCount_32 : decode b_I_bitCount 32 = .ok (.iand, 1) := by decide +kernel
theorem d_I_bitCount_33 : decode b_I_bitCount 33 = .ok (.istore_n 0, 1) := by decide +kernel
theorem d_I_bitCount_34 : decode b_I_bitCount 34 = .ok (.iload_n 0, 1) := by decide +kernel
theorem d_I_bitCount_35 : decode b_I_bitCount 35 = .ok (.iload_n 0, 1) := by decide +kernel
theorem d_I_bitCount_36 : decode b_I_bitCount 36 = .ok (.bipush 8, 2) := by decide +kernel
theorem d_I_bitCount_38 : decode b_I_bitCount 38 = .ok (.iushr, 1) := by decide +kernel
theorem d_I_bitCount_39 : decode b_I_bitCount 39 = .ok (.iadd, 1) := by decide +kernel
theorem d_I_bitCount_40 : decode b_I_bitCount 40 = .ok (.istore_n 0, 1) := by decide +kernel
theorem d_I_bitCount_41 : decode b_I_bitCount 41 = .ok (.iload_n 0, 1) := by decide +kernel
theorem d_I_bitCount_42 : decode b_I_bitCount 42 = .ok (.iload_n 0, 1) := by decide +kernel
theorem d_I_bitCount_43 : decode b_I_bitCount 43 = .ok (.bipush 16, 2) := by decide +kernel
theorem d_I_bitCount_45 : decode b_I_bitCount 45 = .ok (.iushr, 1) := by decide +kernel
theorem d_I_bitCount_46 : decode b_I_bitCount 46 = .ok (.iadd, 1) := by decide +kernel
theorem d_I_bitCount_47 : decode b_I_bitCount 47 = .ok (.istore_n 0, 1) := by decide +kernel
theorem d_I_bitCount_48 : decode b_I_bitCount 48 = .ok (.iload_n 0, 1) := by decide +kernel
theorem d_I_bitCount_49 : decode b_I_bitCount 49 = .ok (.bipush 63, 2) := by decide +kernel
theorem d_I_bitCount_51 : decode b_I_bitCount 51 = .ok (.iand, 1) := by decide +kernel
theorem d_I_bitCount_52 : decode b_I_bitCount 52 = .ok (.ireturn, 1) := by decide +kernel
abbrev b_M_comesWithWidened : ByteArray := prog_7_method_15_code
def y_M_comesWithWidened : MethodName := ⟨"PassedOnAndBetter$Mind", "comesWithWidened", "(IIII)Z"⟩
theorem m_M_comesWithWidened : MV y_M_comesWithWidened b_M_comesWithWidened 6 (some .boolean) 4 := ⟨mG 725 (by decide +kernel) (by decide +kernel), mG 90 (by decide +kernel) (by decide +kernel), by decide +kernel⟩
theorem mi_M_comesWithWidened : Cond.instanceMethod y_M_comesWithWidened ∈ tbG := mG 724 (by decide +kernel) (by decide +kernel)
theorem ms_M_comesWithWidened : Cond.selects y_M_comesWithWidened.cls y_M_comesWithWidened y_M_comesWithWidened ∈ tbG := mG 23 (by decide +kernel) (by decide +kernel)
theorem d_M_comesWithWidened_0 : decode b_M_comesWithWidened 0 = .ok (.aload_n 0, 1) := by decide +kernel
theorem d_M_comesWithWidened_1 : decode b_M_comesWithWidened 1 = .ok (.invokevirtual 41, 3) := by decide +kernel
theorem d_M_comesWithWidened_4 : decode b_M_comesWithWidened 4 = .ok (.pop, 1) := by decide +kernel
theorem d_M_comesWithWidened_5 : decode b_M_comesWithWidened 5 = .ok (.iconst 0, 1) := by decide +kernel
theorem d_M_comesWithWidened_6 : decode b_M_comesWithWidened 6 = .ok (.istore 5, 2) := by decide +kernel
theorem d_M_comesWithWidened_8 : decode b_M_comesWithWidened 8 = .ok (.iload 5, 2) := by decide +kernel
theorem d_M_comesWithWidened_10 : decode b_M_comesWithWidened 10 = .ok (.aload_n 0, 1) := by decide +kernel
theorem d_M_comesWithWidened_11 : decode b_M_comesWithWidened 11 = .ok (.getfield 22, 3) := by decide +kernel
theorem d_M_comesWithWidened_14 : decode b_M_comesWithWidened 14 = .ok (.getfield 97, 3) := by decide +kernel
theorem d_M_comesWithWidened_17 : decode b_M_comesWithWidened 17 = .ok (.if_icmp .ge 34, 3) := by decide +kernel
theorem d_M_comesWithWidened_20 : decode b_M_comesWithWidened 20 = .ok (.iload 4, 2) := by decide +kernel
theorem d_M_comesWithWidened_22 : decode b_M_comesWithWidened 22 = .ok (.iload 5, 2) := by decide +kernel
theorem d_M_comesWithWidened_24 : decode b_M_comesWithWidened 24 = .ok (.ishr, 1) := by decide +kernel
theorem d_M_comesWithWidened_25 : decode b_M_comesWithWidened 25 = .ok (.iconst 1, 1) := by decide +kernel
theorem d_M_comesWithWidened_26 : decode b_M_comesWithWidened 26 = .ok (.iand, 1) := by decide +kernel
theorem d_M_comesWithWidened_27 : decode b_M_comesWithWidened 27 = .ok (.iconst 1, 1) := by decide +kernel
theorem d_M_comesWithWidened_28 : decode b_M_comesWithWidened 28 = .ok (.if_icmp .ne 17, 3) := by decide +kernel
theorem d_M_comesWithWidened_31 : decode b_M_comesWithWidened 31 = .ok (.aload_n 0, 1) := by decide +kernel
theorem d_M_comesWithWidened_32 : decode b_M_comesWithWidened 32 = .ok (.getfield 22, 3) := by decide +kernel
theorem d_M_comesWithWidened_35 : decode b_M_comesWithWidened 35 = .ok (.iload 5, 2) := by decide +kernel
theorem d_M_comesWithWidened_37 : decode b_M_comesWithWidened 37 = .ok (.invokevirtual 88, 3) := by decide +kernel
theorem d_M_comesWithWidened_40 : decode b_M_comesWithWidened 40 = .ok (.bipush 99, 2) := by decide +kernel
theorem d_M_comesWithWidened_42 : decode b_M_comesWithWidened 42 = .ok (.putfield 118, 3) := by decide +kernel
theorem d_M_comesWithWidened_45 : decode b_M_comesWithWidened 45 = .ok (.iinc 5 1, 3) := by decide +kernel
theorem d_M_comesWithWidened_48 : decode b_M_comesWithWidened 48 = .ok (.goto (-40), 3) := by decide +kernel
theorem d_M_comesWithWidened_51 : decode b_M_comesWithWidened 51 = .ok (.aload_n 0, 1) := by decide +kernel
theorem d_M_comesWithWidened_52 : decode b_M_comesWithWidened 52 = .ok (.iload_n 1, 1) := by decide +kernel
theorem d_M_comesWithWidened_53 : decode b_M_comesWithWidened 53 = .ok (.iload_n 2, 1) := by decide +kernel
theorem d_M_comesWithWidened_54 : decode b_M_comesWithWidened 54 = .ok (.iload_n 3, 1) := by decide +kernel
theorem d_M_comesWithWidened_55 : decode b_M_comesWithWidened 55 = .ok (.invokevirtual 78, 3) := by decide +kernel
theorem d_M_comesWithWidened_58 : decode b_M_comesWithWidened 58 = .ok (.bipush (-9), 2) := by decide +kernel
theorem d_M_comesWithWidened_60 : decode b_M_comesWithWidened 60 = .ok (.if_icmp .eq 7, 3) := by decide +kernel
theorem d_M_comesWithWidened_63 : decode b_M_comesWithWidened 63 = .ok (.iconst 1, 1) := by decide +kernel
theorem d_M_comesWithWidened_64 : decode b_M_comesWithWidened 64 = .ok (.goto 4, 3) := by decide +kernel
theorem d_M_comesWithWidened_67 : decode b_M_comesWithWidened 67 = .ok (.iconst 0, 1) := by decide +kernel
theorem d_M_comesWithWidened_68 : decode b_M_comesWithWidened 68 = .ok (.ireturn, 1) := by decide +kernel
abbrev b_M_fewestWidened : ByteArray := prog_7_method_14_code
def y_M_fewestWidened : MethodName := ⟨"PassedOnAndBetter$Mind", "fewestWidened", "(III)I"⟩
theorem m_M_fewestWidened : MV y_M_fewestWidened b_M_fewestWidened 8 (some .int) 3 := ⟨mG 715 (by decide +kernel) (by decide +kernel), mG 90 (by decide +kernel) (by decide +kernel), by decide +kernel⟩
theorem mi_M_fewestWidened : Cond.instanceMethod y_M_fewestWidened ∈ tbG := mG 713 (by decide +kernel) (by decide +kernel)
theorem ms_M_fewestWidened : Cond.selects y_M_fewestWidened.cls y_M_fewestWidened y_M_fewestWidened ∈ tbG := mG 714 (by decide +kernel) (by decide +kernel)
theorem d_M_fewestWidened_0 : decode b_M_fewestWidened 0 = .ok (.bipush (-9), 2) := by decide +kernel
theorem d_M_fewestWidened_2 : decode b_M_fewestWidened 2 = .ok (.istore 4, 2) := by decide +kernel
theorem d_M_fewestWidened_4 : decode b_M_fewestWidened 4 = .ok (.bipush 7, 2) := by decide +kernel
theorem d_M_fewestWidened_6 : decode b_M_fewestWidened 6 = .ok (.istore 5, 2) := by decide +kernel
theorem d_M_fewestWidened_8 : decode b_M_fewestWidened 8 = .ok (.iconst 0, 1) := by decide +kernel
theorem d_M_fewestWidened_9 : decode b_M_fewestWidened 9 = .ok (.istore 6, 2) := by decide +kernel
theorem d_M_fewestWidened_11 : decode b_M_fewestWidened 11 = .ok (.iload 6, 2) := by decide +kernel
theorem d_M_fewestWidened_13 : decode b_M_fewestWidened 13 = .ok (.iconst 1, 1) := by decide +kernel
theorem d_M_fewestWidened_14 : decode b_M_fewestWidened 14 = .ok (.aload_n 0, 1) := by decide +kernel
theorem d_M_fewestWidened_15 : decode b_M_fewestWidened 15 = .ok (.getfield 9, 3) := by decide +kernel
theorem d_M_fewestWidened_18 : decode b_M_fewestWidened 18 = .ok (.getfield 97, 3) := by decide +kernel
theorem d_M_fewestWidened_21 : decode b_M_fewestWidened 21 = .ok (.ishl, 1) := by decide +kernel
theorem d_M_fewestWidened_22 : decode b_M_fewestWidened 22 = .ok (.if_icmp .ge 43, 3) := by decide +kernel
theorem d_M_fewestWidened_25 : decode b_M_fewestWidened 25 = .ok (.iload 6, 2) := by decide +kernel
theorem d_M_fewestWidened_27 : decode b_M_fewestWidened 27 = .ok (.invokestatic 109, 3) := by decide +kernel
theorem d_M_fewestWidened_30 : decode b_M_fewestWidened 30 = .ok (.istore 7, 2) := by decide +kernel
theorem d_M_fewestWidened_32 : decode b_M_fewestWidened 32 = .ok (.iload 7, 2) := by decide +kernel
theorem d_M_fewestWidened_34 : decode b_M_fewestWidened 34 = .ok (.iload 5, 2) := by decide +kernel
theorem d_M_fewestWidened_36 : decode b_M_fewestWidened 36 = .ok (.if_icmp .ge 23, 3) := by decide +kernel
theorem d_M_fewestWidened_39 : decode b_M_fewestWidened 39 = .ok (.aload_n 0, 1) := by decide +kernel
theorem d_M_fewestWidened_40 : decode b_M_fewestWidened 40 = .ok (.iload_n 1, 1) := by decide +kernel
theorem d_M_fewestWidened_41 : decode b_M_fewestWidened 41 = .ok (.iload_n 2, 1) := by decide +kernel
theorem d_M_fewestWidened_42 : decode b_M_fewestWidened 42 = .ok (.iload_n 3, 1) := by decide +kernel
theorem d_M_fewestWidened_43 : decode b_M_fewestWidened 43 = .ok (.iload 6, 2) := by decide +kernel
theorem d_M_fewestWidened_45 : decode b_M_fewestWidened 45 = .ok (.invokevirtual 114, 3) := by decide +kernel
theorem d_M_fewestWidened_48 : decode b_M_fewestWidened 48 = .ok (.ifCond .eq 11, 3) := by decide +kernel
theorem d_M_fewestWidened_51 : decode b_M_fewestWidened 51 = .ok (.iload 7, 2) := by decide +kernel
theorem d_M_fewestWidened_53 : decode b_M_fewestWidened 53 = .ok (.istore 5, 2) := by decide +kernel
theorem d_M_fewestWidened_55 : decode b_M_fewestWidened 55 = .ok (.iload 6, 2) := by decide +kernel
theorem d_M_fewestWidened_57 : decode b_M_fewestWidened 57 = .ok (.istore 4, 2) := by decide +kernel
theorem d_M_fewestWidened_59 : decode b_M_fewestWidened 59 = .ok (.iinc 6 1, 3) := by decide +kernel
theorem d_M_fewestWidened_62 : decode b_M_fewestWidened 62 = .ok (.goto (-51), 3) := by decide +kernel
theorem d_M_fewestWidened_65 : decode b_M_fewestWidened 65 = .ok (.iload 4, 2) := by decide +kernel
theorem d_M_fewestWidened_67 : decode b_M_fewestWidened 67 = .ok (.ireturn, 1) := by decide +kernel
abbrev b_X_doorsFor : ByteArray := prog_1_method_20_code
def y_X_doorsFor : MethodName := ⟨"PassedOnAndBetter", "doorsFor", "(III)I"⟩
theorem m_X_doorsFor : MV y_X_doorsFor b_X_doorsFor 5 (some .int) 3 := ⟨mG 711 (by decide +kernel) (by decide +kernel), mG 83 (by decide +kernel) (by decide +kernel), by decide +kernel⟩
theorem mi_X_doorsFor : Cond.instanceMethod y_X_doorsFor ∈ tbG := mG 709 (by decide +kernel) (by decide +kernel)
theorem ms_X_doorsFor : Cond.selects y_X_doorsFor.cls y_X_doorsFor y_X_doorsFor ∈ tbG := mG 710 (by decide +kernel) (by decide +kernel)
theorem d_X_doorsFor_0 : decode b_X_doorsFor 0 = .ok (.aload_n 0, 1) := by decide +kernel
theorem d_X_doorsFor_1 : decode b_X_doorsFor 1 = .ok (.iload_n 1, 1) := by decide +kernel
theorem d_X_doorsFor_2 : decode b_X_doorsFor 2 = .ok (.invokevirtual 112, 3) := by decide +kernel
theorem d_X_doorsFor_5 : decode b_X_doorsFor 5 = .ok (.aload_n 0, 1) := by decide +kernel
theorem d_X_doorsFor_6 : decode b_X_doorsFor 6 = .ok (.iload_n 2, 1) := by decide +kernel
theorem d_X_doorsFor_7 : decode b_X_doorsFor 7 = .ok (.invokevirtual 90, 3) := by decide +kernel
theorem d_X_doorsFor_10 : decode b_X_doorsFor 10 = .ok (.iload_n 3, 1) := by decide +kernel
theorem d_X_doorsFor_11 : decode b_X_doorsFor 11 = .ok (.invokestatic 170, 3) := by decide +kernel
theorem d_X_doorsFor_14 : decode b_X_doorsFor 14 = .ok (.invokestatic 97, 3) := by decide +kernel
theorem d_X_doorsFor_17 : decode b_X_doorsFor 17 = .ok (.istore 4, 2) := by decide +kernel
theorem d_X_doorsFor_19 : decode b_X_doorsFor 19 = .ok (.iload 4, 2) := by decide +kernel
theorem d_X_doorsFor_21 : decode b_X_doorsFor 21 = .ok (.ifCond .ne 16, 3) := by decide +kernel
theorem d_X_doorsFor_24 : decode b_X_doorsFor 24 = .ok (.aload_n 0, 1) := by decide +kernel
theorem d_X_doorsFor_25 : decode b_X_doorsFor 25 = .ok (.getfield 45, 3) := by decide +kernel
theorem d_X_doorsFor_28 : decode b_X_doorsFor 28 = .ok (.iload_n 1, 1) := by decide +kernel
theorem d_X_doorsFor_29 : decode b_X_doorsFor 29 = .ok (.iload_n 2, 1) := by decide +kernel
theorem d_X_doorsFor_30 : decode b_X_doorsFor 30 = .ok (.iload_n 3, 1) := by decide +kernel
theorem d_X_doorsFor_31 : decode b_X_doorsFor 31 = .ok (.invokevirtual 200, 3) := by decide +kernel
theorem d_X_doorsFor_34 : decode b_X_doorsFor 34 = .ok (.goto 9, 3) := by decide +kernel
theorem d_X_doorsFor_37 : decode b_X_doorsFor 37 = .ok (.aload_n 0, 1) := by decide +kernel
theorem d_X_doorsFor_38 : decode b_X_doorsFor 38 = .ok (.iload 4, 2) := by decide +kernel
theorem d_X_doorsFor_40 : decode b_X_doorsFor 40 = .ok (.invokevirtual 69, 3) := by decide +kernel
theorem d_X_doorsFor_43 : decode b_X_doorsFor 43 = .ok (.ireturn, 1) := by decide +kernel
abbrev b_C_allHands : ByteArray := prog_2_method_15_code
def y_C_allHands : MethodName := ⟨"PassedOnAndBetter$Company", "allHands", "()I"⟩
theorem m_C_allHands : MV y_C_allHands b_C_allHands 3 (some .int) 0 := ⟨mG 737 (by decide +kernel) (by decide +kernel), mG 84 (by decide +kernel) (by decide +kernel), by decide +kernel⟩
theorem mi_C_allHands : Cond.instanceMethod y_C_allHands ∈ tbG := mG 735 (by decide +kernel) (by decide +kernel)
theorem ms_C_allHands : Cond.selects y_C_allHands.cls y_C_allHands y_C_allHands ∈ tbG := mG 736 (by decide +kernel) (by decide +kernel)
theorem d_C_allHands_0 : decode b_C_allHands 0 = .ok (.iconst 0, 1) := by decide +kernel
theorem d_C_allHands_1 : decode b_C_allHands 1 = .ok (.istore_n 1, 1) := by decide +kernel
theorem d_C_allHands_2 : decode b_C_allHands 2 = .ok (.iconst 0, 1) := by decide +kernel
theorem d_C_allHands_3 : decode b_C_allHands 3 = .ok (.istore_n 2, 1) := by decide +kernel
theorem d_C_allHands_4 : decode b_C_allHands 4 = .ok (.iload_n 2, 1) := by decide +kernel
theorem d_C_allHands_5 : decode b_C_allHands 5 = .ok (.aload_n 0, 1) := by decide +kernel
theorem d_C_allHands_6 : decode b_C_allHands 6 = .ok (.getfield 37, 3) := by decide +kernel
theorem d_C_allHands_9 : decode b_C_allHands 9 = .ok (.if_icmp .ge 20, 3) := by decide +kernel
theorem d_C_allHands_12 : decode b_C_allHands 12 = .ok (.iload_n 1, 1) := by decide +kernel
theorem d_C_allHands_13 : decode b_C_allHands 13 = .ok (.aload_n 0, 1) := by decide +kernel
theorem d_C_allHands_14 : decode b_C_allHands 14 = .ok (.iload_n 2, 1) := by decide +kernel
theorem d_C_allHands_15 : decode b_C_allHands 15 = .ok (.invokevirtual 51, 3) := by decide +kernel
theorem d_C_allHands_18 : decode b_C_allHands 18 = .ok (.getfield 76, 3) := by decide +kernel
theorem d_C_allHands_21 : decode b_C_allHands 21 = .ok (.iadd, 1) := by decide +kernel
theorem d_C_allHands_22 : decode b_C_allHands 22 = .ok (.istore_n 1, 1) := by decide +kernel
theorem d_C_allHands_23 : decode b_C_allHands 23 = .ok (.iinc 2 1, 3) := by decide +kernel
theorem d_C_allHands_26 : decode b_C_allHands 26 = .ok (.goto (-22), 3) := by decide +kernel
theorem d_C_allHands_29 : decode b_C_allHands 29 = .ok (.iload_n 1, 1) := by decide +kernel
theorem d_C_allHands_30 : decode b_C_allHands 30 = .ok (.ireturn, 1) := by decide +kernel
abbrev b_M_doorOfMostHands : ByteArray := prog_7_method_16_code
def y_M_doorOfMostHands : MethodName := ⟨"PassedOnAndBetter$Mind", "doorOfMostHands", "(III)I"⟩
theorem m_M_doorOfMostHands : MV y_M_doorOfMostHands b_M_doorOfMostHands 8 (some .int) 3 := ⟨mG 733 (by decide +kernel) (by decide +kernel), mG 90 (by decide +kernel) (by decide +kernel), by decide +kernel⟩
theorem mi_M_doorOfMostHands : Cond.instanceMethod y_M_doorOfMostHands ∈ tbG := mG 731 (by decide +kernel) (by decide +kernel)
theorem ms_M_doorOfMostHands : Cond.selects y_M_doorOfMostHands.cls y_M_doorOfMostHands y_M_doorOfMostHands ∈ tbG := mG 732 (by decide +kernel) (by decide +kernel)
theorem d_M_doorOfMostHands_0 : decode b_M_doorOfMostHands 0 = .ok (.iconst 1, 1) := by decide +kernel
theorem d_M_doorOfMostHands_1 : decode b_M_doorOfMostHands 1 = .ok (.istore 4, 2) := by decide +kernel
theorem d_M_doorOfMostHands_3 : decode b_M_doorOfMostHands 3 = .ok (.iconst (-1), 1) := by decide +kernel
theorem d_M_doorOfMostHands_4 : decode b_M_doorOfMostHands 4 = .ok (.istore 5, 2) := by decide +kernel
theorem d_M_doorOfMostHands_6 : decode b_M_doorOfMostHands 6 = .ok (.iconst 1, 1) := by decide +kernel
theorem d_M_doorOfMostHands_7 : decode b_M_doorOfMostHands 7 = .ok (.istore 6, 2) := by decide +kernel
theorem d_M_doorOfMostHands_9 : decode b_M_doorOfMostHands 9 = .ok (.iload 6, 2) := by decide +kernel
theorem d_M_doorOfMostHands_11 : decode b_M_doorOfMostHands 11 = .ok (.bipush 99, 2) := by decide +kernel
theorem d_M_doorOfMostHands_13 : decode b_M_doorOfMostHands 13 = .ok (.if_icmp .gt 54, 3) := by decide +kernel
theorem d_M_doorOfMostHands_16 : decode b_M_doorOfMostHands 16 = .ok (.aload_n 0, 1) := by decide +kernel
theorem d_M_doorOfMostHands_17 : decode b_M_doorOfMostHands 17 = .ok (.invokevirtual 41, 3) := by decide +kernel
theorem d_M_doorOfMostHands_20 : decode b_M_doorOfMostHands 20 = .ok (.iload_n 1, 1) := by decide +kernel
theorem d_M_doorOfMostHands_21 : decode b_M_doorOfMostHands 21 = .ok (.invokevirtual 88, 3) := by decide +kernel
theorem d_M_doorOfMostHands_24 : decode b_M_doorOfMostHands 24 = .ok (.iload 6, 2) := by decide +kernel
theorem d_M_doorOfMostHands_26 : decode b_M_doorOfMostHands 26 = .ok (.putfield 118, 3) := by decide +kernel
theorem d_M_doorOfMostHands_29 : decode b_M_doorOfMostHands 29 = .ok (.aload_n 0, 1) := by decide +kernel
theorem d_M_doorOfMostHands_30 : decode b_M_doorOfMostHands 30 = .ok (.getfield 22, 3) := by decide +kernel
theorem d_M_doorOfMostHands_33 : decode b_M_doorOfMostHands 33 = .ok (.iload_n 2, 1) := by decide +kernel
theorem d_M_doorOfMostHands_34 : decode b_M_doorOfMostHands 34 = .ok (.invokevirtual 66, 3) := by decide +kernel
theorem d_M_doorOfMostHands_37 : decode b_M_doorOfMostHands 37 = .ok (.aload_n 0, 1) := by decide +kernel
theorem d_M_doorOfMostHands_38 : decode b_M_doorOfMostHands 38 = .ok (.getfield 22, 3) := by decide +kernel
theorem d_M_doorOfMostHands_41 : decode b_M_doorOfMostHands 41 = .ok (.invokevirtual 121, 3) := by decide +kernel
theorem d_M_doorOfMostHands_44 : decode b_M_doorOfMostHands 44 = .ok (.istore 7, 2) := by decide +kernel
theorem d_M_doorOfMostHands_46 : decode b_M_doorOfMostHands 46 = .ok (.iload 7, 2) := by decide +kernel
theorem d_M_doorOfMostHands_48 : decode b_M_doorOfMostHands 48 = .ok (.iload 5, 2) := by decide +kernel
theorem d_M_doorOfMostHands_50 : decode b_M_doorOfMostHands 50 = .ok (.if_icmp .le 11, 3) := by decide +kernel
theorem d_M_doorOfMostHands_53 : decode b_M_doorOfMostHands 53 = .ok (.iload 7, 2) := by decide +kernel
theorem d_M_doorOfMostHands_55 : decode b_M_doorOfMostHands 55 = .ok (.istore 5, 2) := by decide +kernel
theorem d_M_doorOfMostHands_57 : decode b_M_doorOfMostHands 57 = .ok (.iload 6, 2) := by decide +kernel
theorem d_M_doorOfMostHands_59 : decode b_M_doorOfMostHands 59 = .ok (.istore 4, 2) := by decide +kernel
theorem d_M_doorOfMostHands_61 : decode b_M_doorOfMostHands 61 = .ok (.iinc 6 1, 3) := by decide +kernel
theorem d_M_doorOfMostHands_64 : decode b_M_doorOfMostHands 64 = .ok (.goto (-55), 3) := by decide +kernel
theorem d_M_doorOfMostHands_67 : decode b_M_doorOfMostHands 67 = .ok (.iload_n 3, 1) := by decide +kernel
theorem d_M_doorOfMostHands_68 : decode b_M_doorOfMostHands 68 = .ok (.ifCond .ne 8, 3) := by decide +kernel
theorem d_M_doorOfMostHands_71 : decode b_M_doorOfMostHands 71 = .ok (.iload 4, 2) := by decide +kernel
theorem d_M_doorOfMostHands_73 : decode b_M_doorOfMostHands 73 = .ok (.goto 5, 3) := by decide +kernel
theorem d_M_doorOfMostHands_76 : decode b_M_doorOfMostHands 76 = .ok (.iload 5, 2) := by decide +kernel
theorem d_M_doorOfMostHands_78 : decode b_M_doorOfMostHands 78 = .ok (.ireturn, 1) := by decide +kernel
abbrev b_X_doorWanted : ByteArray := prog_1_method_21_code
def y_X_doorWanted : MethodName := ⟨"PassedOnAndBetter", "doorWanted", "(III)I"⟩
theorem m_X_doorWanted : MV y_X_doorWanted b_X_doorWanted 5 (some .int) 3 := ⟨mG 729 (by decide +kernel) (by decide +kernel), mG 83 (by decide +kernel) (by decide +kernel), by decide +kernel⟩
theorem mi_X_doorWanted : Cond.instanceMethod y_X_doorWanted ∈ tbG := mG 727 (by decide +kernel) (by decide +kernel)
theorem ms_X_doorWanted : Cond.selects y_X_doorWanted.cls y_X_doorWanted y_X_doorWanted ∈ tbG := mG 728 (by decide +kernel) (by decide +kernel)
theorem d_X_doorWanted_0 : decode b_X_doorWanted 0 = .ok (.aload_n 0, 1) := by decide +kernel
theorem d_X_doorWanted_1 : decode b_X_doorWanted 1 = .ok (.iload_n 1, 1) := by decide +kernel
theorem d_X_doorWanted_2 : decode b_X_doorWanted 2 = .ok (.invokevirtual 90, 3) := by decide +kernel
theorem d_X_doorWanted_5 : decode b_X_doorWanted 5 = .ok (.iload_n 2, 1) := by decide +kernel
theorem d_X_doorWanted_6 : decode b_X_doorWanted 6 = .ok (.invokestatic 170, 3) := by decide +kernel
theorem d_X_doorWanted_9 : decode b_X_doorWanted 9 = .ok (.iload_n 3, 1) := by decide +kernel
theorem d_X_doorWanted_10 : decode b_X_doorWanted 10 = .ok (.iconst 1, 1) := by decide +kernel
theorem d_X_doorWanted_11 : decode b_X_doorWanted 11 = .ok (.invokestatic 93, 3) := by decide +kernel
theorem d_X_doorWanted_14 : decode b_X_doorWanted 14 = .ok (.invokestatic 97, 3) := by decide +kernel
theorem d_X_doorWanted_17 : decode b_X_doorWanted 17 = .ok (.istore 4, 2) := by decide +kernel
theorem d_X_doorWanted_19 : decode b_X_doorWanted 19 = .ok (.iload 4, 2) := by decide +kernel
theorem d_X_doorWanted_21 : decode b_X_doorWanted 21 = .ok (.ifCond .ne 16, 3) := by decide +kernel
theorem d_X_doorWanted_24 : decode b_X_doorWanted 24 = .ok (.aload_n 0, 1) := by decide +kernel
theorem d_X_doorWanted_25 : decode b_X_doorWanted 25 = .ok (.getfield 45, 3) := by decide +kernel
theorem d_X_doorWanted_28 : decode b_X_doorWanted 28 = .ok (.iload_n 1, 1) := by decide +kernel
theorem d_X_doorWanted_29 : decode b_X_doorWanted 29 = .ok (.iload_n 2, 1) := by decide +kernel
theorem d_X_doorWanted_30 : decode b_X_doorWanted 30 = .ok (.iload_n 3, 1) := by decide +kernel
theorem d_X_doorWanted_31 : decode b_X_doorWanted 31 = .ok (.invokevirtual 203, 3) := by decide +kernel
theorem d_X_doorWanted_34 : decode b_X_doorWanted 34 = .ok (.goto 9, 3) := by decide +kernel
theorem d_X_doorWanted_37 : decode b_X_doorWanted 37 = .ok (.aload_n 0, 1) := by decide +kernel
theorem d_X_doorWanted_38 : decode b_X_doorWanted 38 = .ok (.iload 4, 2) := by decide +kernel
theorem d_X_doorWanted_40 : decode b_X_doorWanted 40 = .ok (.invokevirtual 69, 3) := by decide +kernel
theorem d_X_doorWanted_43 : decode b_X_doorWanted 43 = .ok (.ireturn, 1) := by decide +kernel
abbrev b_C_passOver : ByteArray := prog_2_method_18_code
def y_C_passOver : MethodName := ⟨"PassedOnAndBetter$Company", "passOver", "(I)V"⟩
theorem m_C_passOver : MV y_C_passOver b_C_passOver 5 none 1 := ⟨mG 749 (by decide +kernel) (by decide +kernel), mG 84 (by decide +kernel) (by decide +kernel), by decide +kernel⟩
theorem mi_C_passOver : Cond.instanceMethod y_C_passOver ∈ tbG := mG 747 (by decide +kernel) (by decide +kernel)
theorem ms_C_passOver : Cond.selects y_C_passOver.cls y_C_passOver y_C_passOver ∈ tbG := mG 748 (by decide +kernel) (by decide +kernel)
theorem d_C_passOver_0 : decode b_C_passOver 0 = .ok (.aload_n 0, 1) := by decide +kernel
theorem d_C_passOver_1 : decode b_C_passOver 1 = .ok (.iload_n 1, 1) := by decide +kernel
theorem d_C_passOver_2 : decode b_C_passOver 2 = .ok (.invokevirtual 43, 3) := by decide +kernel
theorem d_C_passOver_5 : decode b_C_passOver 5 = .ok (.getfield 63, 3) := by decide +kernel
theorem d_C_passOver_8 : decode b_C_passOver 8 = .ok (.istore_n 2, 1) := by decide +kernel
theorem d_C_passOver_9 : decode b_C_passOver 9 = .ok (.iconst 0, 1) := by decide +kernel
theorem d_C_passOver_10 : decode b_C_passOver 10 = .ok (.istore_n 3, 1) := by decide +kernel
theorem d_C_passOver_11 : decode b_C_passOver 11 = .ok (.iload_n 3, 1) := by decide +kernel
theorem d_C_passOver_12 : decode b_C_passOver 12 = .ok (.aload_n 0, 1) := by decide +kernel
theorem d_C_passOver_13 : decode b_C_passOver 13 = .ok (.getfield 33, 3) := by decide +kernel
theorem d_C_passOver_16 : decode b_C_passOver 16 = .ok (.if_icmp .ge 40, 3) := by decide +kernel
theorem d_C_passOver_19 : decode b_C_passOver 19 = .ok (.aload_n 0, 1) := by decide +kernel
theorem d_C_passOver_20 : decode b_C_passOver 20 = .ok (.iload_n 3, 1) := by decide +kernel
theorem d_C_passOver_21 : decode b_C_passOver 21 = .ok (.invokevirtual 43, 3) := by decide +kernel
theorem d_C_passOver_24 : decode b_C_passOver 24 = .ok (.astore 4, 2) := by decide +kernel
theorem d_C_passOver_26 : decode b_C_passOver 26 = .ok (.aload 4, 2) := by decide +kernel
theorem d_C_passOver_28 : decode b_C_passOver 28 = .ok (.getfield 63, 3) := by decide +kernel
theorem d_C_passOver_31 : decode b_C_passOver 31 = .ok (.iload_n 1, 1) := by decide +kernel
theorem d_C_passOver_32 : decode b_C_passOver 32 = .ok (.if_icmp .ne 18, 3) := by decide +kernel
theorem d_C_passOver_35 : decode b_C_passOver 35 = .ok (.aload 4, 2) := by decide +kernel
theorem d_C_passOver_37 : decode b_C_passOver 37 = .ok (.iload_n 2, 1) := by decide +kernel
theorem d_C_passOver_38 : decode b_C_passOver 38 = .ok (.iload_n 3, 1) := by decide +kernel
theorem d_C_passOver_39 : decode b_C_passOver 39 = .ok (.if_icmp .ne 7, 3) := by decide +kernel
theorem d_C_passOver_42 : decode b_C_passOver 42 = .ok (.iconst (-1), 1) := by decide +kernel
theorem d_C_passOver_43 : decode b_C_passOver 43 = .ok (.goto 4, 3) := by decide +kernel
theorem d_C_passOver_46 : decode b_C_passOver 46 = .ok (.iload_n 2, 1) := by decide +kernel
theorem d_C_passOver_47 : decode b_C_passOver 47 = .ok (.putfield 63, 3) := by decide +kernel
theorem d_C_passOver_50 : decode b_C_passOver 50 = .ok (.iinc 3 1, 3) := by decide +kernel
theorem d_C_passOver_53 : decode b_C_passOver 53 = .ok (.goto (-42), 3) := by decide +kernel
theorem d_C_passOver_56 : decode b_C_passOver 56 = .ok (.iconst 0, 1) := by decide +kernel
theorem d_C_passOver_57 : decode b_C_passOver 57 = .ok (.istore_n 3, 1) := by decide +kernel
theorem d_C_passOver_58 : decode b_C_passOver 58 = .ok (.iload_n 3, 1) := by decide +kernel
theorem d_C_passOver_59 : decode b_C_passOver 59 = .ok (.aload_n 0, 1) := by decide +kernel
theorem d_C_passOver_60 : decode b_C_passOver 60 = .ok (.getfield 37, 3) := by decide +kernel
theorem d_C_passOver_63 : decode b_C_passOver 63 = .ok (.if_icmp .ge 35, 3) := by decide +kernel
theorem d_C_passOver_66 : decode b_C_passOver 66 = .ok (.iload_n 2, 1) := by decide +kernel
theorem d_C_passOver_67 : decode b_C_passOver 67 = .ok (.iconst (-1), 1) := by decide +kernel
theorem d_C_passOver_68 : decode b_C_passOver 68 = .ok (.if_icmp .eq 30, 3) := by decide +kernel
theorem d_C_passOver_71 : decode b_C_passOver 71 = .ok (.aload_n 0, 1) := by decide +kernel
theorem d_C_passOver_72 : decode b_C_passOver 72 = .ok (.iload_n 3, 1) := by decide +kernel
theorem d_C_passOver_73 : decode b_C_passOver 73 = .ok (.invokevirtual 51, 3) := by decide +kernel
theorem d_C_passOver_76 : decode b_C_passOver 76 = .ok (.getfield 79, 3) := by decide +kernel
theorem d_C_passOver_79 : decode b_C_passOver 79 = .ok (.iload_n 1, 1) := by decide +kernel
theorem d_C_passOver_80 : decode b_C_passOver 80 = .ok (.if_icmp .ne 12, 3) := by decide +kernel
theorem d_C_passOver_83 : decode b_C_passOver 83 = .ok (.aload_n 0, 1) := by decide +kernel
theorem d_C_passOver_84 : decode b_C_passOver 84 = .ok (.iload_n 3, 1) := by decide +kernel
theorem d_C_passOver_85 : decode b_C_passOver 85 = .ok (.invokevirtual 51, 3) := by decide +kernel
theorem d_C_passOver_88 : decode b_C_passOver 88 = .ok (.iload_n 2, 1) := by decide +kernel
theorem d_C_passOver_89 : decode b_C_passOver 89 = .ok (.invokevirtual 82, 3) := by decide +kernel
theorem d_C_passOver_92 : decode b_C_passOver 92 = .ok (.iinc 3 1, 3) := by decide +kernel
theorem d_C_passOver_95 : decode b_C_passOver 95 = .ok (.goto (-37), 3) := by decide +kernel
theorem d_C_passOver_98 : decode b_C_passOver 98 = .ok (.return_, 1) := by decide +kernel
abbrev b_M_bestWithout : ByteArray := prog_7_method_17_code
def y_M_bestWithout : MethodName := ⟨"PassedOnAndBetter$Mind", "bestWithout", "(I)I"⟩
theorem m_M_bestWithout : MV y_M_bestWithout b_M_bestWithout 6 (some .int) 1 := ⟨mG 745 (by decide +kernel) (by decide +kernel), mG 90 (by decide +kernel) (by decide +kernel), by decide +kernel⟩
theorem mi_M_bestWithout : Cond.instanceMethod y_M_bestWithout ∈ tbG := mG 743 (by decide +kernel) (by decide +kernel)
theorem ms_M_bestWithout : Cond.selects y_M_bestWithout.cls y_M_bestWithout y_M_bestWithout ∈ tbG := mG 744 (by decide +kernel) (by decide +kernel)
theorem d_M_bestWithout_0 : decode b_M_bestWithout 0 = .ok (.bipush (-9), 2) := by decide +kernel
theorem d_M_bestWithout_2 : decode b_M_bestWithout 2 = .ok (.istore_n 2, 1) := by decide +kernel
theorem d_M_bestWithout_3 : decode b_M_bestWithout 3 = .ok (.iconst (-1), 1) := by decide +kernel
theorem d_M_bestWithout_4 : decode b_M_bestWithout 4 = .ok (.istore_n 3, 1) := by decide +kernel
theorem d_M_bestWithout_5 : decode b_M_bestWithout 5 = .ok (.iconst 0, 1) := by decide +kernel
theorem d_M_bestWithout_6 : decode b_M_bestWithout 6 = .ok (.istore 4, 2) := by decide +kernel
theorem d_M_bestWithout_8 : decode b_M_bestWithout 8 = .ok (.iload 4, 2) := by decide +kernel
theorem d_M_bestWithout_10 : decode b_M_bestWithout 10 = .ok (.aload_n 0, 1) := by decide +kernel
theorem d_M_bestWithout_11 : decode b_M_bestWithout 11 = .ok (.getfield 9, 3) := by decide +kernel
theorem d_M_bestWithout_14 : decode b_M_bestWithout 14 = .ok (.getfield 97, 3) := by decide +kernel
theorem d_M_bestWithout_17 : decode b_M_bestWithout 17 = .ok (.if_icmp .ge 58, 3) := by decide +kernel
theorem d_M_bestWithout_20 : decode b_M_bestWithout 20 = .ok (.aload_n 0, 1) := by decide +kernel
theorem d_M_bestWithout_21 : decode b_M_bestWithout 21 = .ok (.getfield 9, 3) := by decide +kernel
theorem d_M_bestWithout_24 : decode b_M_bestWithout 24 = .ok (.getfield 97, 3) := by decide +kernel
theorem d_M_bestWithout_27 : decode b_M_bestWithout 27 = .ok (.iconst 2, 1) := by decide +kernel
theorem d_M_bestWithout_28 : decode b_M_bestWithout 28 = .ok (.if_icmp .lt 47, 3) := by decide +kernel
theorem d_M_bestWithout_31 : decode b_M_bestWithout 31 = .ok (.aload_n 0, 1) := by decide +kernel
theorem d_M_bestWithout_32 : decode b_M_bestWithout 32 = .ok (.invokevirtual 41, 3) := by decide +kernel
theorem d_M_bestWithout_35 : decode b_M_bestWithout 35 = .ok (.iload 4, 2) := by decide +kernel
theorem d_M_bestWithout_37 : decode b_M_bestWithout 37 = .ok (.invokevirtual 124, 3) := by decide +kernel
theorem d_M_bestWithout_40 : decode b_M_bestWithout 40 = .ok (.aload_n 0, 1) := by decide +kernel
theorem d_M_bestWithout_41 : decode b_M_bestWithout 41 = .ok (.getfield 22, 3) := by decide +kernel
theorem d_M_bestWithout_44 : decode b_M_bestWithout 44 = .ok (.iload_n 1, 1) := by decide +kernel
theorem d_M_bestWithout_45 : decode b_M_bestWithout 45 = .ok (.invokevirtual 66, 3) := by decide +kernel
theorem d_M_bestWithout_48 : decode b_M_bestWithout 48 = .ok (.aload_n 0, 1) := by decide +kernel
theorem d_M_bestWithout_49 : decode b_M_bestWithout 49 = .ok (.getfield 22, 3) := by decide +kernel
theorem d_M_bestWithout_52 : decode b_M_bestWithout 52 = .ok (.invokevirtual 70, 3) := by decide +kernel
theorem d_M_bestWithout_55 : decode b_M_bestWithout 55 = .ok (.istore 5, 2) := by decide +kernel
theorem d_M_bestWithout_57 : decode b_M_bestWithout 57 = .ok (.iload 5, 2) := by decide +kernel
theorem d_M_bestWithout_59 : decode b_M_bestWithout 59 = .ok (.iload_n 3, 1) := by decide +kernel
theorem d_M_bestWithout_60 : decode b_M_bestWithout 60 = .ok (.if_icmp .le 9, 3) := by decide +kernel
theorem d_M_bestWithout_63 : decode b_M_bestWithout 63 = .ok (.iload 5, 2) := by decide +kernel
theorem d_M_bestWithout_65 : decode b_M_bestWithout 65 = .ok (.istore_n 3, 1) := by decide +kernel
theorem d_M_bestWithout_66 : decode b_M_bestWithout 66 = .ok (.iload 4, 2) := by decide +kernel
theorem d_M_bestWithout_68 : decode b_M_bestWithout 68 = .ok (.istore_n 2, 1) := by decide +kernel
theorem d_M_bestWithout_69 : decode b_M_bestWithout 69 = .ok (.iinc 4 1, 3) := by decide +kernel
theorem d_M_bestWithout_72 : decode b_M_bestWithout 72 = .ok (.goto (-64), 3) := by decide +kernel
theorem d_M_bestWithout_75 : decode b_M_bestWithout 75 = .ok (.iload_n 2, 1) := by decide +kernel
theorem d_M_bestWithout_76 : decode b_M_bestWithout 76 = .ok (.ireturn, 1) := by decide +kernel
abbrev b_X_passedOver : ByteArray := prog_1_method_22_code
def y_X_passedOver : MethodName := ⟨"PassedOnAndBetter", "passedOver", "(I)I"⟩
theorem m_X_passedOver : MV y_X_passedOver b_X_passedOver 3 (some .int) 1 := ⟨mG 741 (by decide +kernel) (by decide +kernel), mG 83 (by decide +kernel) (by decide +kernel), by decide +kernel⟩
theorem mi_X_passedOver : Cond.instanceMethod y_X_passedOver ∈ tbG := mG 739 (by decide +kernel) (by decide +kernel)
theorem ms_X_passedOver : Cond.selects y_X_passedOver.cls y_X_passedOver y_X_passedOver ∈ tbG := mG 740 (by decide +kernel) (by decide +kernel)
theorem d_X_passedOver_0 : decode b_X_passedOver 0 = .ok (.iload_n 1, 1) := by decide +kernel
theorem d_X_passedOver_1 : decode b_X_passedOver 1 = .ok (.invokestatic 170, 3) := by decide +kernel
theorem d_X_passedOver_4 : decode b_X_passedOver 4 = .ok (.istore_n 2, 1) := by decide +kernel
theorem d_X_passedOver_5 : decode b_X_passedOver 5 = .ok (.iload_n 2, 1) := by decide +kernel
theorem d_X_passedOver_6 : decode b_X_passedOver 6 = .ok (.ifCond .ne 14, 3) := by decide +kernel
theorem d_X_passedOver_9 : decode b_X_passedOver 9 = .ok (.aload_n 0, 1) := by decide +kernel
theorem d_X_passedOver_10 : decode b_X_passedOver 10 = .ok (.getfield 45, 3) := by decide +kernel
theorem d_X_passedOver_13 : decode b_X_passedOver 13 = .ok (.iload_n 1, 1) := by decide +kernel
theorem d_X_passedOver_14 : decode b_X_passedOver 14 = .ok (.invokevirtual 206, 3) := by decide +kernel
theorem d_X_passedOver_17 : decode b_X_passedOver 17 = .ok (.goto 8, 3) := by decide +kernel
theorem d_X_passedOver_20 : decode b_X_passedOver 20 = .ok (.aload_n 0, 1) := by decide +kernel
theorem d_X_passedOver_21 : decode b_X_passedOver 21 = .ok (.iload_n 2, 1) := by decide +kernel
theorem d_X_passedOver_22 : decode b_X_passedOver 22 = .ok (.invokevirtual 69, 3) := by decide +kernel
theorem d_X_passedOver_25 : decode b_X_passedOver 25 = .ok (.ireturn, 1) := by decide +kernel
abbrev b_C_chainFrom : ByteArray := prog_2_method_19_code
def y_C_chainFrom : MethodName := ⟨"PassedOnAndBetter$Company", "chainFrom", "(II)I"⟩
theorem m_C_chainFrom : MV y_C_chainFrom b_C_chainFrom 6 (some .int) 2 := ⟨mG 758 (by decide +kernel) (by decide +kernel), mG 84 (by decide +kernel) (by decide +kernel), by decide +kernel⟩
theorem mi_C_chainFrom : Cond.instanceMethod y_C_chainFrom ∈ tbG := mG 756 (by decide +kernel) (by decide +kernel)
theorem ms_C_chainFrom : Cond.selects y_C_chainFrom.cls y_C_chainFrom y_C_chainFrom ∈ tbG := mG 757 (by decide +kernel) (by decide +kernel)
theorem d_C_chainFrom_0 : decode b_C_chainFrom 0 = .ok (.iconst 0, 1) := by decide +kernel
theorem d_C_chainFrom_1 : decode b_C_chainFrom 1 = .ok (.istore_n 3, 1) := by decide +kernel
theorem d_C_chainFrom_2 : decode b_C_chainFrom 2 = .ok (.iconst 0, 1) := by decide +kernel
theorem d_C_chainFrom_3 : decode b_C_chainFrom 3 = .ok (.istore 4, 2) := by decide +kernel
theorem d_C_chainFrom_5 : decode b_C_chainFrom 5 = .ok (.iload_n 1, 1) := by decide +kernel
theorem d_C_chainFrom_6 : decode b_C_chainFrom 6 = .ok (.istore 5, 2) := by decide +kernel
theorem d_C_chainFrom_8 : decode b_C_chainFrom 8 = .ok (.iload 4, 2) := by decide +kernel
theorem d_C_chainFrom_10 : decode b_C_chainFrom 10 = .ok (.bipush 6, 2) := by decide +kernel
theorem d_C_chainFrom_12 : decode b_C_chainFrom 12 = .ok (.if_icmp .ge 45, 3) := by decide +kernel
theorem d_C_chainFrom_15 : decode b_C_chainFrom 15 = .ok (.aload_n 0, 1) := by decide +kernel
theorem d_C_chainFrom_16 : decode b_C_chainFrom 16 = .ok (.iload 5, 2) := by decide +kernel
theorem d_C_chainFrom_18 : decode b_C_chainFrom 18 = .ok (.invokevirtual 86, 3) := by decide +kernel
theorem d_C_chainFrom_21 : decode b_C_chainFrom 21 = .ok (.ifCond .eq 36, 3) := by decide +kernel
theorem d_C_chainFrom_24 : decode b_C_chainFrom 24 = .ok (.iload_n 3, 1) := by decide +kernel
theorem d_C_chainFrom_25 : decode b_C_chainFrom 25 = .ok (.iload 5, 2) := by decide +kernel
theorem d_C_chainFrom_27 : decode b_C_chainFrom 27 = .ok (.ishr, 1) := by decide +kernel
theorem d_C_chainFrom_28 : decode b_C_chainFrom 28 = .ok (.iconst 1, 1) := by decide +kernel
theorem d_C_chainFrom_29 : decode b_C_chainFrom 29 = .ok (.iand, 1) := by decide +kernel
theorem d_C_chainFrom_30 : decode b_C_chainFrom 30 = .ok (.ifCond .ne 27, 3) := by decide +kernel
theorem d_C_chainFrom_33 : decode b_C_chainFrom 33 = .ok (.iload_n 3, 1) := by decide +kernel
theorem d_C_chainFrom_34 : decode b_C_chainFrom 34 = .ok (.iconst 1, 1) := by decide +kernel
theorem d_C_chainFrom_35 : decode b_C_chainFrom 35 = .ok (.iload 5, 2) := by decide +kernel
theorem d_C_chainFrom_37 : decode b_C_chainFrom 37 = .ok (.ishl, 1) := by decide +kernel
theorem d_C_chainFrom_38 : decode b_C_chainFrom 38 = .ok (.ior, 1) := by decide +kernel
theorem d_C_chainFrom_39 : decode b_C_chainFrom 39 = .ok (.istore_n 3, 1) := by decide +kernel
theorem d_C_chainFrom_40 : decode b_C_chainFrom 40 = .ok (.iinc 4 1, 3) := by decide +kernel
theorem d_C_chainFrom_43 : decode b_C_chainFrom 43 = .ok (.aload_n 0, 1) := by decide +kernel
theorem d_C_chainFrom_44 : decode b_C_chainFrom 44 = .ok (.iload 5, 2) := by decide +kernel
theorem d_C_chainFrom_46 : decode b_C_chainFrom 46 = .ok (.invokevirtual 43, 3) := by decide +kernel
theorem d_C_chainFrom_49 : decode b_C_chainFrom 49 = .ok (.getfield 63, 3) := by decide +kernel
theorem d_C_chainFrom_52 : decode b_C_chainFrom 52 = .ok (.istore 5, 2) := by decide +kernel
theorem d_C_chainFrom_54 : decode b_C_chainFrom 54 = .ok (.goto (-46), 3) := by decide +kernel
theorem d_C_chainFrom_57 : decode b_C_chainFrom 57 = .ok (.iload_n 2, 1) := by decide +kernel
theorem d_C_chainFrom_58 : decode b_C_chainFrom 58 = .ok (.ifCond .ne 6, 3) := by decide +kernel
theorem d_C_chainFrom_61 : decode b_C_chainFrom 61 = .ok (.iload 4, 2) := by decide +kernel
theorem d_C_chainFrom_63 : decode b_C_chainFrom 63 = .ok (.ireturn, 1) := by decide +kernel
theorem d_C_chainFrom_64 : decode b_C_chainFrom 64 = .ok (.iload 5, 2) := by decide +kernel
theorem d_C_chainFrom_66 : decode b_C_chainFrom 66 = .ok (.iconst (-1), 1) := by decide +kernel
theorem d_C_chainFrom_67 : decode b_C_chainFrom 67 = .ok (.if_icmp .ne 7, 3) := by decide +kernel
theorem d_C_chainFrom_70 : decode b_C_chainFrom 70 = .ok (.iconst 0, 1) := by decide +kernel
theorem d_C_chainFrom_71 : decode b_C_chainFrom 71 = .ok (.goto 4, 3) := by decide +kernel
theorem d_C_chainFrom_74 : decode b_C_chainFrom 74 = .ok (.iconst 1, 1) := by decide +kernel
theorem d_C_chainFrom_75 : decode b_C_chainFrom 75 = .ok (.ireturn, 1) := by decide +kernel
abbrev b_X_chain : ByteArray := prog_1_method_23_code
def y_X_chain : MethodName := ⟨"PassedOnAndBetter", "chain", "(II)I"⟩
theorem m_X_chain : MV y_X_chain b_X_chain 4 (some .int) 2 := ⟨mG 754 (by decide +kernel) (by decide +kernel), mG 83 (by decide +kernel) (by decide +kernel), by decide +kernel⟩
theorem mi_X_chain : Cond.instanceMethod y_X_chain ∈ tbG := mG 752 (by decide +kernel) (by decide +kernel)
theorem ms_X_chain : Cond.selects y_X_chain.cls y_X_chain y_X_chain ∈ tbG := mG 753 (by decide +kernel) (by decide +kernel)
theorem d_X_chain_0 : decode b_X_chain 0 = .ok (.aload_n 0, 1) := by decide +kernel
theorem d_X_chain_1 : decode b_X_chain 1 = .ok (.iload_n 1, 1) := by decide +kernel
theorem d_X_chain_2 : decode b_X_chain 2 = .ok (.invokevirtual 90, 3) := by decide +kernel
theorem d_X_chain_5 : decode b_X_chain 5 = .ok (.iload_n 2, 1) := by decide +kernel
theorem d_X_chain_6 : decode b_X_chain 6 = .ok (.iconst 1, 1) := by decide +kernel
theorem d_X_chain_7 : decode b_X_chain 7 = .ok (.invokestatic 93, 3) := by decide +kernel
theorem d_X_chain_10 : decode b_X_chain 10 = .ok (.iconst 0, 1) := by decide +kernel
theorem d_X_chain_11 : decode b_X_chain 11 = .ok (.invokestatic 97, 3) := by decide +kernel
theorem d_X_chain_14 : decode b_X_chain 14 = .ok (.istore_n 3, 1) := by decide +kernel
theorem d_X_chain_15 : decode b_X_chain 15 = .ok (.iload_n 3, 1) := by decide +kernel
theorem d_X_chain_16 : decode b_X_chain 16 = .ok (.ifCond .ne 15, 3) := by decide +kernel
theorem d_X_chain_19 : decode b_X_chain 19 = .ok (.aload_n 0, 1) := by decide +kernel
theorem d_X_chain_20 : decode b_X_chain 20 = .ok (.getfield 10, 3) := by decide +kernel
theorem d_X_chain_23 : decode b_X_chain 23 = .ok (.iload_n 1, 1) := by decide +kernel
theorem d_X_chain_24 : decode b_X_chain 24 = .ok (.iload_n 2, 1) := by decide +kernel
theorem d_X_chain_25 : decode b_X_chain 25 = .ok (.invokevirtual 209, 3) := by decide +kernel
theorem d_X_chain_28 : decode b_X_chain 28 = .ok (.goto 8, 3) := by decide +kernel
theorem d_X_chain_31 : decode b_X_chain 31 = .ok (.aload_n 0, 1) := by decide +kernel
theorem d_X_chain_32 : decode b_X_chain 32 = .ok (.iload_n 3, 1) := by decide +kernel
theorem d_X_chain_33 : decode b_X_chain 33 = .ok (.invokevirtual 69, 3) := by decide +kernel
theorem d_X_chain_36 : decode b_X_chain 36 = .ok (.ireturn, 1) := by decide +kernel
abbrev b_C_givings : ByteArray := prog_2_method_20_code
def y_C_givings : MethodName := ⟨"PassedOnAndBetter$Company", "givings", "(II)I"⟩
theorem m_C_givings : MV y_C_givings b_C_givings 5 (some .int) 2 := ⟨mG 771 (by decide +kernel) (by decide +kernel), mG 84 (by decide +kernel) (by decide +kernel), by decide +kernel⟩
theorem mi_C_givings : Cond.instanceMethod y_C_givings ∈ tbG := mG 769 (by decide +kernel) (by decide +kernel)
theorem ms_C_givings : Cond.selects y_C_givings.cls y_C_givings y_C_givings ∈ tbG := mG 770 (by decide +kernel) (by decide +kernel)
theorem d_C_givings_0 : decode b_C_givings 0 = .ok (.iload_n 1, 1) := by decide +kernel
theorem d_C_givings_1 : decode b_C_givings 1 = .ok (.istore_n 3, 1) := by decide +kernel
theorem d_C_givings_2 : decode b_C_givings 2 = .ok (.iconst 1, 1) := by decide +kernel
theorem d_C_givings_3 : decode b_C_givings 3 = .ok (.istore 4, 2) := by decide +kernel
theorem d_C_givings_5 : decode b_C_givings 5 = .ok (.iload 4, 2) := by decide +kernel
theorem d_C_givings_7 : decode b_C_givings 7 = .ok (.aload_n 0, 1) := by decide +kernel
theorem d_C_givings_8 : decode b_C_givings 8 = .ok (.getfield 33, 3) := by decide +kernel
theorem d_C_givings_11 : decode b_C_givings 11 = .ok (.if_icmp .gt 34, 3) := by decide +kernel
theorem d_C_givings_14 : decode b_C_givings 14 = .ok (.aload_n 0, 1) := by decide +kernel
theorem d_C_givings_15 : decode b_C_givings 15 = .ok (.iload_n 3, 1) := by decide +kernel
theorem d_C_givings_16 : decode b_C_givings 16 = .ok (.invokevirtual 43, 3) := by decide +kernel
theorem d_C_givings_19 : decode b_C_givings 19 = .ok (.getfield 63, 3) := by decide +kernel
theorem d_C_givings_22 : decode b_C_givings 22 = .ok (.istore_n 3, 1) := by decide +kernel
theorem d_C_givings_23 : decode b_C_givings 23 = .ok (.iload_n 3, 1) := by decide +kernel
theorem d_C_givings_24 : decode b_C_givings 24 = .ok (.iconst (-1), 1) := by decide +kernel
theorem d_C_givings_25 : decode b_C_givings 25 = .ok (.if_icmp .ne 6, 3) := by decide +kernel
theorem d_C_givings_28 : decode b_C_givings 28 = .ok (.bipush (-9), 2) := by decide +kernel
theorem d_C_givings_30 : decode b_C_givings 30 = .ok (.ireturn, 1) := by decide +kernel
theorem d_C_givings_31 : decode b_C_givings 31 = .ok (.iload_n 3, 1) := by decide +kernel
theorem d_C_givings_32 : decode b_C_givings 32 = .ok (.iload_n 2, 1) := by decide +kernel
theorem d_C_givings_33 : decode b_C_givings 33 = .ok (.if_icmp .ne 6, 3) := by decide +kernel
theorem d_C_givings_36 : decode b_C_givings 36 = .ok (.iload 4, 2) := by decide +kernel
theorem d_C_givings_38 : decode b_C_givings 38 = .ok (.ireturn, 1) := by decide +kernel
theorem d_C_givings_39 : decode b_C_givings 39 = .ok (.iinc 4 1, 3) := by decide +kernel
theorem d_C_givings_42 : decode b_C_givings 42 = .ok (.goto (-37), 3) := by decide +kernel
theorem d_C_givings_45 : decode b_C_givings 45 = .ok (.bipush (-9), 2) := by decide +kernel
theorem d_C_givings_47 : decode b_C_givings 47 = .ok (.ireturn, 1) := by decide +kernel
abbrev b_C_comingAgain : ByteArray := prog_2_method_21_code
def y_C_comingAgain : MethodName := ⟨"PassedOnAndBetter$Company", "comingAgain", "()I"⟩
theorem m_C_comingAgain : MV y_C_comingAgain b_C_comingAgain 3 (some .int) 0 := ⟨mG 767 (by decide +kernel) (by decide +kernel), mG 84 (by decide +kernel) (by decide +kernel), by decide +kernel⟩
theorem mi_C_comingAgain : Cond.instanceMethod y_C_comingAgain ∈ tbG := mG 765 (by decide +kernel) (by decide +kernel)
theorem ms_C_comingAgain : Cond.selects y_C_comingAgain.cls y_C_comingAgain y_C_comingAgain ∈ tbG := mG 766 (by decide +kernel) (by decide +kernel)
theorem d_C_comingAgain_0 : decode b_C_comingAgain 0 = .ok (.iconst 0, 1) := by decide +kernel
theorem d_C_comingAgain_1 : decode b_C_comingAgain 1 = .ok (.istore_n 1, 1) := by decide +kernel
theorem d_C_comingAgain_2 : decode b_C_comingAgain 2 = .ok (.iconst 0, 1) := by decide +kernel
theorem d_C_comingAgain_3 : decode b_C_comingAgain 3 = .ok (.istore_n 2, 1) := by decide +kernel
theorem d_C_comingAgain_4 : decode b_C_comingAgain 4 = .ok (.iload_n 2, 1) := by decide +kernel
theorem d_C_comingAgain_5 : decode b_C_comingAgain 5 = .ok (.aload_n 0, 1) := by decide +kernel
theorem d_C_comingAgain_6 : decode b_C_comingAgain 6 = .ok (.getfield 33, 3) := by decide +kernel
theorem d_C_comingAgain_9 : decode b_C_comingAgain 9 = .ok (.if_icmp .ge 23, 3) := by decide +kernel
theorem d_C_comingAgain_12 : decode b_C_comingAgain 12 = .ok (.aload_n 0, 1) := by decide +kernel
theorem d_C_comingAgain_13 : decode b_C_comingAgain 13 = .ok (.iload_n 2, 1) := by decide +kernel
theorem d_C_comingAgain_14 : decode b_C_comingAgain 14 = .ok (.iload_n 2, 1) := by decide +kernel
theorem d_C_comingAgain_15 : decode b_C_comingAgain 15 = .ok (.invokevirtual 90, 3) := by decide +kernel
theorem d_C_comingAgain_18 : decode b_C_comingAgain 18 = .ok (.bipush (-9), 2) := by decide +kernel
theorem d_C_comingAgain_20 : decode b_C_comingAgain 20 = .ok (.if_icmp .eq 6, 3) := by decide +kernel
theorem d_C_comingAgain_23 : decode b_C_comingAgain 23 = .ok (.iinc 1 1, 3) := by decide +kernel
theorem d_C_comingAgain_26 : decode b_C_comingAgain 26 = .ok (.iinc 2 1, 3) := by decide +kernel
theorem d_C_comingAgain_29 : decode b_C_comingAgain 29 = .ok (.goto (-25), 3) := by decide +kernel
theorem d_C_comingAgain_32 : decode b_C_comingAgain 32 = .ok (.iload_n 1, 1) := by decide +kernel
theorem d_C_comingAgain_33 : decode b_C_comingAgain 33 = .ok (.ireturn, 1) := by decide +kernel
abbrev b_X_circles : ByteArray := prog_1_method_24_code
def y_X_circles : MethodName := ⟨"PassedOnAndBetter", "circles", "()I"⟩
theorem m_X_circles : MV y_X_circles b_X_circles 1 (some .int) 0 := ⟨mG 763 (by decide +kernel) (by decide +kernel), mG 83 (by decide +kernel) (by decide +kernel), by decide +kernel⟩
theorem mi_X_circles : Cond.instanceMethod y_X_circles ∈ tbG := mG 761 (by decide +kernel) (by decide +kernel)
theorem ms_X_circles : Cond.selects y_X_circles.cls y_X_circles y_X_circles ∈ tbG := mG 762 (by decide +kernel) (by decide +kernel)
theorem d_X_circles_0 : decode b_X_circles 0 = .ok (.aload_n 0, 1) := by decide +kernel
theorem d_X_circles_1 : decode b_X_circles 1 = .ok (.getfield 10, 3) := by decide +kernel
theorem d_X_circles_4 : decode b_X_circles 4 = .ok (.invokevirtual 212, 3) := by decide +kernel
theorem d_X_circles_7 : decode b_X_circles 7 = .ok (.ireturn, 1) := by decide +kernel
abbrev b_X_way : ByteArray := prog_1_method_25_code
def y_X_way : MethodName := ⟨"PassedOnAndBetter", "way", "(II)I"⟩
theorem m_X_way : MV y_X_way b_X_way 4 (some .int) 2 := ⟨mG 775 (by decide +kernel) (by decide +kernel), mG 83 (by decide +kernel) (by decide +kernel), by decide +kernel⟩
theorem mi_X_way : Cond.instanceMethod y_X_way ∈ tbG := mG 773 (by decide +kernel) (by decide +kernel)
theorem ms_X_way : Cond.selects y_X_way.cls y_X_way y_X_way ∈ tbG := mG 774 (by decide +kernel) (by decide +kernel)
theorem d_X_way_0 : decode b_X_way 0 = .ok (.aload_n 0, 1) := by decide +kernel
theorem d_X_way_1 : decode b_X_way 1 = .ok (.iload_n 1, 1) := by decide +kernel
theorem d_X_way_2 : decode b_X_way 2 = .ok (.iload_n 2, 1) := by decide +kernel
theorem d_X_way_3 : decode b_X_way 3 = .ok (.invokevirtual 134, 3) := by decide +kernel
theorem d_X_way_6 : decode b_X_way 6 = .ok (.istore_n 3, 1) := by decide +kernel
theorem d_X_way_7 : decode b_X_way 7 = .ok (.iload_n 3, 1) := by decide +kernel
theorem d_X_way_8 : decode b_X_way 8 = .ok (.ifCond .ne 15, 3) := by decide +kernel
theorem d_X_way_11 : decode b_X_way 11 = .ok (.aload_n 0, 1) := by decide +kernel
theorem d_X_way_12 : decode b_X_way 12 = .ok (.getfield 10, 3) := by decide +kernel
theorem d_X_way_15 : decode b_X_way 15 = .ok (.iload_n 1, 1) := by decide +kernel
theorem d_X_way_16 : decode b_X_way 16 = .ok (.iload_n 2, 1) := by decide +kernel
theorem d_X_way_17 : decode b_X_way 17 = .ok (.invokevirtual 215, 3) := by decide +kernel
theorem d_X_way_20 : decode b_X_way 20 = .ok (.goto 8, 3) := by decide +kernel
theorem d_X_way_23 : decode b_X_way 23 = .ok (.aload_n 0, 1) := by decide +kernel
theorem d_X_way_24 : decode b_X_way 24 = .ok (.iload_n 3, 1) := by decide +kernel
theorem d_X_way_25 : decode b_X_way 25 = .ok (.invokevirtual 69, 3) := by decide +kernel
theorem d_X_way_28 : decode b_X_way 28 = .ok (.ireturn, 1) := by decide +kernel
abbrev b_M_holderOf : ByteArray := prog_7_method_21_code
def y_M_holderOf : MethodName := ⟨"PassedOnAndBetter$Mind", "holderOf", "(I)LPassedOnAndBetter$Friend;"⟩
theorem m_M_holderOf : MV y_M_holderOf b_M_holderOf 2 (some (.object "PassedOnAndBetter$Friend")) 1 := ⟨mG 788 (by decide +kernel) (by decide +kernel), mG 90 (by decide +kernel) (by decide +kernel), by decide +kernel⟩
theorem mi_M_holderOf : Cond.instanceMethod y_M_holderOf ∈ tbG := mG 787 (by decide +kernel) (by decide +kernel)
theorem ms_M_holderOf : Cond.selects y_M_holderOf.cls y_M_holderOf y_M_holderOf ∈ tbG := mG 24 (by decide +kernel) (by decide +kernel)
theorem d_M_holderOf_0 : decode b_M_holderOf 0 = .ok (.aload_n 0, 1) := by decide +kernel
theorem d_M_holderOf_1 : decode b_M_holderOf 1 = .ok (.invokevirtual 41, 3) := by decide +kernel
theorem d_M_holderOf_4 : decode b_M_holderOf 4 = .ok (.pop, 1) := by decide +kernel
theorem d_M_holderOf_5 : decode b_M_holderOf 5 = .ok (.aload_n 0, 1) := by decide +kernel
theorem d_M_holderOf_6 : decode b_M_holderOf 6 = .ok (.getfield 22, 3) := by decide +kernel
theorem d_M_holderOf_9 : decode b_M_holderOf 9 = .ok (.aload_n 0, 1) := by decide +kernel
theorem d_M_holderOf_10 : decode b_M_holderOf 10 = .ok (.getfield 22, 3) := by decide +kernel
theorem d_M_holderOf_13 : decode b_M_holderOf 13 = .ok (.iload_n 1, 1) := by decide +kernel
theorem d_M_holderOf_14 : decode b_M_holderOf 14 = .ok (.invokevirtual 45, 3) := by decide +kernel
theorem d_M_holderOf_17 : decode b_M_holderOf 17 = .ok (.getfield 53, 3) := by decide +kernel
theorem d_M_holderOf_20 : decode b_M_holderOf 20 = .ok (.invokevirtual 88, 3) := by decide +kernel
theorem d_M_holderOf_23 : decode b_M_holderOf 23 = .ok (.areturn, 1) := by decide +kernel
abbrev b_N_numberAt : ByteArray := prog_8_method_4_code
def y_N_numberAt : MethodName := ⟨"PassedOnAndBetter$Numbers", "numberAt", "(I)I"⟩
theorem m_N_numberAt : MV y_N_numberAt b_N_numberAt 2 (some .int) 1 := ⟨mG 797 (by decide +kernel) (by decide +kernel), mG 89 (by decide +kernel) (by decide +kernel), by decide +kernel⟩
theorem mi_N_numberAt : Cond.instanceMethod y_N_numberAt ∈ tbG := mG 795 (by decide +kernel) (by decide +kernel)
theorem ms_N_numberAt : Cond.selects y_N_numberAt.cls y_N_numberAt y_N_numberAt ∈ tbG := mG 796 (by decide +kernel) (by decide +kernel)
theorem d_N_numberAt_0 : decode b_N_numberAt 0 = .ok (.aload_n 0, 1) := by decide +kernel
theorem d_N_numberAt_1 : decode b_N_numberAt 1 = .ok (.getfield 9, 3) := by decide +kernel
theorem d_N_numberAt_4 : decode b_N_numberAt 4 = .ok (.iload_n 1, 1) := by decide +kernel
theorem d_N_numberAt_5 : decode b_N_numberAt 5 = .ok (.invokestatic 23, 3) := by decide +kernel
theorem d_N_numberAt_8 : decode b_N_numberAt 8 = .ok (.ireturn, 1) := by decide +kernel
abbrev b_M_worthsAreAsTold : ByteArray := prog_7_method_22_code
def y_M_worthsAreAsTold : MethodName := ⟨"PassedOnAndBetter$Mind", "worthsAreAsTold", "(I)Z"⟩
theorem m_M_worthsAreAsTold : MV y_M_worthsAreAsTold b_M_worthsAreAsTold 4 (some .boolean) 1 := ⟨mG 793 (by decide +kernel) (by decide +kernel), mG 90 (by decide +kernel) (by decide +kernel), by decide +kernel⟩
theorem mi_M_worthsAreAsTold : Cond.instanceMethod y_M_worthsAreAsTold ∈ tbG := mG 792 (by decide +kernel) (by decide +kernel)
theorem ms_M_worthsAreAsTold : Cond.selects y_M_worthsAreAsTold.cls y_M_worthsAreAsTold y_M_worthsAreAsTold ∈ tbG := mG 25 (by decide +kernel) (by decide +kernel)
theorem d_M_worthsAreAsTold_0 : decode b_M_worthsAreAsTold 0 = .ok (.aload_n 0, 1) := by decide +kernel
theorem d_M_worthsAreAsTold_1 : decode b_M_worthsAreAsTold 1 = .ok (.getfield 22, 3) := by decide +kernel
theorem d_M_worthsAreAsTold_4 : decode b_M_worthsAreAsTold 4 = .ok (.iload_n 1, 1) := by decide +kernel
theorem d_M_worthsAreAsTold_5 : decode b_M_worthsAreAsTold 5 = .ok (.invokevirtual 45, 3) := by decide +kernel
theorem d_M_worthsAreAsTold_8 : decode b_M_worthsAreAsTold 8 = .ok (.astore_n 2, 1) := by decide +kernel
theorem d_M_worthsAreAsTold_9 : decode b_M_worthsAreAsTold 9 = .ok (.iconst 0, 1) := by decide +kernel
theorem d_M_worthsAreAsTold_10 : decode b_M_worthsAreAsTold 10 = .ok (.istore_n 3, 1) := by decide +kernel
theorem d_M_worthsAreAsTold_11 : decode b_M_worthsAreAsTold 11 = .ok (.iload_n 3, 1) := by decide +kernel
theorem d_M_worthsAreAsTold_12 : decode b_M_worthsAreAsTold 12 = .ok (.aload_n 0, 1) := by decide +kernel
theorem d_M_worthsAreAsTold_13 : decode b_M_worthsAreAsTold 13 = .ok (.getfield 15, 3) := by decide +kernel
theorem d_M_worthsAreAsTold_16 : decode b_M_worthsAreAsTold 16 = .ok (.getfield 144, 3) := by decide +kernel
theorem d_M_worthsAreAsTold_19 : decode b_M_worthsAreAsTold 19 = .ok (.if_icmp .ge 34, 3) := by decide +kernel
theorem d_M_worthsAreAsTold_22 : decode b_M_worthsAreAsTold 22 = .ok (.aload_n 2, 1) := by decide +kernel
theorem d_M_worthsAreAsTold_23 : decode b_M_worthsAreAsTold 23 = .ok (.getfield 57, 3) := by decide +kernel
theorem d_M_worthsAreAsTold_26 : decode b_M_worthsAreAsTold 26 = .ok (.aload_n 0, 1) := by decide +kernel
theorem d_M_worthsAreAsTold_27 : decode b_M_worthsAreAsTold 27 = .ok (.getfield 15, 3) := by decide +kernel
theorem d_M_worthsAreAsTold_30 : decode b_M_worthsAreAsTold 30 = .ok (.iload_n 3, 1) := by decide +kernel
theorem d_M_worthsAreAsTold_31 : decode b_M_worthsAreAsTold 31 = .ok (.invokevirtual 149, 3) := by decide +kernel
theorem d_M_worthsAreAsTold_34 : decode b_M_worthsAreAsTold 34 = .ok (.if_icmp .eq 5, 3) := by decide +kernel
theorem d_M_worthsAreAsTold_37 : decode b_M_worthsAreAsTold 37 = .ok (.iconst 0, 1) := by decide +kernel
theorem d_M_worthsAreAsTold_38 : decode b_M_worthsAreAsTold 38 = .ok (.ireturn, 1) := by decide +kernel
theorem d_M_worthsAreAsTold_39 : decode b_M_worthsAreAsTold 39 = .ok (.aload_n 2, 1) := by decide +kernel
theorem d_M_worthsAreAsTold_40 : decode b_M_worthsAreAsTold 40 = .ok (.aload_n 0, 1) := by decide +kernel
theorem d_M_worthsAreAsTold_41 : decode b_M_worthsAreAsTold 41 = .ok (.getfield 22, 3) := by decide +kernel
theorem d_M_worthsAreAsTold_44 : decode b_M_worthsAreAsTold 44 = .ok (.invokevirtual 36, 3) := by decide +kernel
theorem d_M_worthsAreAsTold_47 : decode b_M_worthsAreAsTold 47 = .ok (.iinc 3 1, 3) := by decide +kernel
theorem d_M_worthsAreAsTold_50 : decode b_M_worthsAreAsTold 50 = .ok (.goto (-39), 3) := by decide +kernel
theorem d_M_worthsAreAsTold_53 : decode b_M_worthsAreAsTold 53 = .ok (.iconst 1, 1) := by decide +kernel
theorem d_M_worthsAreAsTold_54 : decode b_M_worthsAreAsTold 54 = .ok (.ireturn, 1) := by decide +kernel
abbrev b_M_kindsToldBy : ByteArray := prog_7_method_18_code
def y_M_kindsToldBy : MethodName := ⟨"PassedOnAndBetter$Mind", "kindsToldBy", "(I)I"⟩
theorem m_M_kindsToldBy : MV y_M_kindsToldBy b_M_kindsToldBy 5 (some .int) 1 := ⟨mG 784 (by decide +kernel) (by decide +kernel), mG 90 (by decide +kernel) (by decide +kernel), by decide +kernel⟩
theorem mi_M_kindsToldBy : Cond.instanceMethod y_M_kindsToldBy ∈ tbG := mG 782 (by decide +kernel) (by decide +kernel)
theorem ms_M_kindsToldBy : Cond.selects y_M_kindsToldBy.cls y_M_kindsToldBy y_M_kindsToldBy ∈ tbG := mG 783 (by decide +kernel) (by decide +kernel)
theorem d_M_kindsToldBy_0 : decode b_M_kindsToldBy 0 = .ok (.iconst 0, 1) := by decide +kernel
theorem d_M_kindsToldBy_1 : decode b_M_kindsToldBy 1 = .ok (.istore_n 2, 1) := by decide +kernel
theorem d_M_kindsToldBy_2 : decode b_M_kindsToldBy 2 = .ok (.iconst 0, 1) := by decide +kernel
theorem d_M_kindsToldBy_3 : decode b_M_kindsToldBy 3 = .ok (.istore_n 3, 1) := by decide +kernel
theorem d_M_kindsToldBy_4 : decode b_M_kindsToldBy 4 = .ok (.iload_n 3, 1) := by decide +kernel
theorem d_M_kindsToldBy_5 : decode b_M_kindsToldBy 5 = .ok (.iconst 5, 1) := by decide +kernel
theorem d_M_kindsToldBy_6 : decode b_M_kindsToldBy 6 = .ok (.if_icmp .gt 41, 3) := by decide +kernel
theorem d_M_kindsToldBy_9 : decode b_M_kindsToldBy 9 = .ok (.aload_n 0, 1) := by decide +kernel
theorem d_M_kindsToldBy_10 : decode b_M_kindsToldBy 10 = .ok (.iload_n 1, 1) := by decide +kernel
theorem d_M_kindsToldBy_11 : decode b_M_kindsToldBy 11 = .ok (.invokevirtual 127, 3) := by decide +kernel
theorem d_M_kindsToldBy_14 : decode b_M_kindsToldBy 14 = .ok (.astore 4, 2) := by decide +kernel
theorem d_M_kindsToldBy_16 : decode b_M_kindsToldBy 16 = .ok (.aload 4, 2) := by decide +kernel
theorem d_M_kindsToldBy_18 : decode b_M_kindsToldBy 18 = .ok (.iload_n 3, 1) := by decide +kernel
theorem d_M_kindsToldBy_19 : decode b_M_kindsToldBy 19 = .ok (.aload 4, 2) := by decide +kernel
theorem d_M_kindsToldBy_21 : decode b_M_kindsToldBy 21 = .ok (.getfield 130, 3) := by decide +kernel
theorem d_M_kindsToldBy_24 : decode b_M_kindsToldBy 24 = .ok (.invokevirtual 133, 3) := by decide +kernel
theorem d_M_kindsToldBy_27 : decode b_M_kindsToldBy 27 = .ok (.aload_n 0, 1) := by decide +kernel
theorem d_M_kindsToldBy_28 : decode b_M_kindsToldBy 28 = .ok (.iload_n 1, 1) := by decide +kernel
theorem d_M_kindsToldBy_29 : decode b_M_kindsToldBy 29 = .ok (.invokevirtual 137, 3) := by decide +kernel
theorem d_M_kindsToldBy_32 : decode b_M_kindsToldBy 32 = .ok (.ifCond .eq 9, 3) := by decide +kernel
theorem d_M_kindsToldBy_35 : decode b_M_kindsToldBy 35 = .ok (.iload_n 2, 1) := by decide +kernel
theorem d_M_kindsToldBy_36 : decode b_M_kindsToldBy 36 = .ok (.iconst 1, 1) := by decide +kernel
theorem d_M_kindsToldBy_37 : decode b_M_kindsToldBy 37 = .ok (.iload_n 3, 1) := by decide +kernel
theorem d_M_kindsToldBy_38 : decode b_M_kindsToldBy 38 = .ok (.ishl, 1) := by decide +kernel
theorem d_M_kindsToldBy_39 : decode b_M_kindsToldBy 39 = .ok (.ior, 1) := by decide +kernel
theorem d_M_kindsToldBy_40 : decode b_M_kindsToldBy 40 = .ok (.istore_n 2, 1) := by decide +kernel
theorem d_M_kindsToldBy_41 : decode b_M_kindsToldBy 41 = .ok (.iinc 3 1, 3) := by decide +kernel
theorem d_M_kindsToldBy_44 : decode b_M_kindsToldBy 44 = .ok (.goto (-40), 3) := by decide +kernel
theorem d_M_kindsToldBy_47 : decode b_M_kindsToldBy 47 = .ok (.iload_n 2, 1) := by decide +kernel
theorem d_M_kindsToldBy_48 : decode b_M_kindsToldBy 48 = .ok (.ireturn, 1) := by decide +kernel
abbrev b_M_figuresToldBy : ByteArray := prog_7_method_19_code
def y_M_figuresToldBy : MethodName := ⟨"PassedOnAndBetter$Mind", "figuresToldBy", "(I)I"⟩
theorem m_M_figuresToldBy : MV y_M_figuresToldBy b_M_figuresToldBy 5 (some .int) 1 := ⟨mG 802 (by decide +kernel) (by decide +kernel), mG 90 (by decide +kernel) (by decide +kernel), by decide +kernel⟩
theorem mi_M_figuresToldBy : Cond.instanceMethod y_M_figuresToldBy ∈ tbG := mG 800 (by decide +kernel) (by decide +kernel)
theorem ms_M_figuresToldBy : Cond.selects y_M_figuresToldBy.cls y_M_figuresToldBy y_M_figuresToldBy ∈ tbG := mG 801 (by decide +kernel) (by decide +kernel)
theorem d_M_figuresToldBy_0 : decode b_M_figuresToldBy 0 = .ok (.iconst 0, 1) := by decide +kernel
theorem d_M_figuresToldBy_1 : decode b_M_figuresToldBy 1 = .ok (.istore_n 2, 1) := by decide +kernel
theorem d_M_figuresToldBy_2 : decode b_M_figuresToldBy 2 = .ok (.iconst 0, 1) := by decide +kernel
theorem d_M_figuresToldBy_3 : decode b_M_figuresToldBy 3 = .ok (.istore_n 3, 1) := by decide +kernel
theorem d_M_figuresToldBy_4 : decode b_M_figuresToldBy 4 = .ok (.iload_n 3, 1) := by decide +kernel
theorem d_M_figuresToldBy_5 : decode b_M_figuresToldBy 5 = .ok (.bipush 9, 2) := by decide +kernel
theorem d_M_figuresToldBy_7 : decode b_M_figuresToldBy 7 = .ok (.if_icmp .gt 41, 3) := by decide +kernel
theorem d_M_figuresToldBy_10 : decode b_M_figuresToldBy 10 = .ok (.aload_n 0, 1) := by decide +kernel
theorem d_M_figuresToldBy_11 : decode b_M_figuresToldBy 11 = .ok (.iload_n 1, 1) := by decide +kernel
theorem d_M_figuresToldBy_12 : decode b_M_figuresToldBy 12 = .ok (.invokevirtual 127, 3) := by decide +kernel
theorem d_M_figuresToldBy_15 : decode b_M_figuresToldBy 15 = .ok (.astore 4, 2) := by decide +kernel
theorem d_M_figuresToldBy_17 : decode b_M_figuresToldBy 17 = .ok (.aload 4, 2) := by decide +kernel
theorem d_M_figuresToldBy_19 : decode b_M_figuresToldBy 19 = .ok (.aload 4, 2) := by decide +kernel
theorem d_M_figuresToldBy_21 : decode b_M_figuresToldBy 21 = .ok (.getfield 141, 3) := by decide +kernel
theorem d_M_figuresToldBy_24 : decode b_M_figuresToldBy 24 = .ok (.iload_n 3, 1) := by decide +kernel
theorem d_M_figuresToldBy_25 : decode b_M_figuresToldBy 25 = .ok (.invokevirtual 133, 3) := by decide +kernel
theorem d_M_figuresToldBy_28 : decode b_M_figuresToldBy 28 = .ok (.aload_n 0, 1) := by decide +kernel
theorem d_M_figuresToldBy_29 : decode b_M_figuresToldBy 29 = .ok (.iload_n 1, 1) := by decide +kernel
theorem d_M_figuresToldBy_30 : decode b_M_figuresToldBy 30 = .ok (.invokevirtual 137, 3) := by decide +kernel
theorem d_M_figuresToldBy_33 : decode b_M_figuresToldBy 33 = .ok (.ifCond .eq 9, 3) := by decide +kernel
theorem d_M_figuresToldBy_36 : decode b_M_figuresToldBy 36 = .ok (.iload_n 2, 1) := by decide +kernel
theorem d_M_figuresToldBy_37 : decode b_M_figuresToldBy 37 = .ok (.iconst 1, 1) := by decide +kernel
theorem d_M_figuresToldBy_38 : decode b_M_figuresToldBy 38 = .ok (.iload_n 3, 1) := by decide +kernel
theorem d_M_figuresToldBy_39 : decode b_M_figuresToldBy 39 = .ok (.ishl, 1) := by decide +kernel
theorem d_M_figuresToldBy_40 : decode b_M_figuresToldBy 40 = .ok (.ior, 1) := by decide +kernel
theorem d_M_figuresToldBy_41 : decode b_M_figuresToldBy 41 = .ok (.istore_n 2, 1) := by decide +kernel
theorem d_M_figuresToldBy_42 : decode b_M_figuresToldBy 42 = .ok (.iinc 3 1, 3) := by decide +kernel
theorem d_M_figuresToldBy_45 : decode b_M_figuresToldBy 45 = .ok (.goto (-41), 3) := by decide +kernel
theorem d_M_figuresToldBy_48 : decode b_M_figuresToldBy 48 = .ok (.iload_n 2, 1) := by decide +kernel
theorem d_M_figuresToldBy_49 : decode b_M_figuresToldBy 49 = .ok (.ireturn, 1) := by decide +kernel
abbrev b_M_keptsToldBy : ByteArray := prog_7_method_20_code
def y_M_keptsToldBy : MethodName := ⟨"PassedOnAndBetter$Mind", "keptsToldBy", "(I)I"⟩
theorem m_M_keptsToldBy : MV y_M_keptsToldBy b_M_keptsToldBy 4 (some .int) 1 := ⟨mG 806 (by decide +kernel) (by decide +kernel), mG 90 (by decide +kernel) (by decide +kernel), by decide +kernel⟩
theorem mi_M_keptsToldBy : Cond.instanceMethod y_M_keptsToldBy ∈ tbG := mG 804 (by decide +kernel) (by decide +kernel)
theorem ms_M_keptsToldBy : Cond.selects y_M_keptsToldBy.cls y_M_keptsToldBy y_M_keptsToldBy ∈ tbG := mG 805 (by decide +kernel) (by decide +kernel)
theorem d_M_keptsToldBy_0 : decode b_M_keptsToldBy 0 = .ok (.iconst 0, 1) := by decide +kernel
theorem d_M_keptsToldBy_1 : decode b_M_keptsToldBy 1 = .ok (.istore_n 2, 1) := by decide +kernel
theorem d_M_keptsToldBy_2 : decode b_M_keptsToldBy 2 = .ok (.iconst 0, 1) := by decide +kernel
theorem d_M_keptsToldBy_3 : decode b_M_keptsToldBy 3 = .ok (.istore_n 3, 1) := by decide +kernel
theorem d_M_keptsToldBy_4 : decode b_M_keptsToldBy 4 = .ok (.iload_n 3, 1) := by decide +kernel
theorem d_M_keptsToldBy_5 : decode b_M_keptsToldBy 5 = .ok (.bipush 12, 2) := by decide +kernel
theorem d_M_keptsToldBy_7 : decode b_M_keptsToldBy 7 = .ok (.if_icmp .gt 32, 3) := by decide +kernel
theorem d_M_keptsToldBy_10 : decode b_M_keptsToldBy 10 = .ok (.aload_n 0, 1) := by decide +kernel
theorem d_M_keptsToldBy_11 : decode b_M_keptsToldBy 11 = .ok (.invokevirtual 41, 3) := by decide +kernel
theorem d_M_keptsToldBy_14 : decode b_M_keptsToldBy 14 = .ok (.iload_n 1, 1) := by decide +kernel
theorem d_M_keptsToldBy_15 : decode b_M_keptsToldBy 15 = .ok (.invokevirtual 45, 3) := by decide +kernel
theorem d_M_keptsToldBy_18 : decode b_M_keptsToldBy 18 = .ok (.iload_n 3, 1) := by decide +kernel
theorem d_M_keptsToldBy_19 : decode b_M_keptsToldBy 19 = .ok (.putfield 85, 3) := by decide +kernel
theorem d_M_keptsToldBy_22 : decode b_M_keptsToldBy 22 = .ok (.aload_n 0, 1) := by decide +kernel
theorem d_M_keptsToldBy_23 : decode b_M_keptsToldBy 23 = .ok (.iload_n 1, 1) := by decide +kernel
theorem d_M_keptsToldBy_24 : decode b_M_keptsToldBy 24 = .ok (.invokevirtual 137, 3) := by decide +kernel
theorem d_M_keptsToldBy_27 : decode b_M_keptsToldBy 27 = .ok (.ifCond .eq 6, 3) := by decide +kernel
theorem d_M_keptsToldBy_30 : decode b_M_keptsToldBy 30 = .ok (.iinc 2 1, 3) := by decide +kernel
theorem d_M_keptsToldBy_33 : decode b_M_keptsToldBy 33 = .ok (.iinc 3 1, 3) := by decide +kernel
theorem d_M_keptsToldBy_36 : decode b_M_keptsToldBy 36 = .ok (.goto (-32), 3) := by decide +kernel
theorem d_M_keptsToldBy_39 : decode b_M_keptsToldBy 39 = .ok (.iload_n 2, 1) := by decide +kernel
theorem d_M_keptsToldBy_40 : decode b_M_keptsToldBy 40 = .ok (.ireturn, 1) := by decide +kernel
abbrev b_X_whatItWas : ByteArray := prog_1_method_26_code
def y_X_whatItWas : MethodName := ⟨"PassedOnAndBetter", "whatItWas", "(II)I"⟩
theorem m_X_whatItWas : MV y_X_whatItWas b_X_whatItWas 4 (some .int) 2 := ⟨mG 780 (by decide +kernel) (by decide +kernel), mG 83 (by decide +kernel) (by decide +kernel), by decide +kernel⟩
theorem mi_X_whatItWas : Cond.instanceMethod y_X_whatItWas ∈ tbG := mG 778 (by decide +kernel) (by decide +kernel)
theorem ms_X_whatItWas : Cond.selects y_X_whatItWas.cls y_X_whatItWas y_X_whatItWas ∈ tbG := mG 779 (by decide +kernel) (by decide +kernel)
theorem d_X_whatItWas_0 : decode b_X_whatItWas 0 = .ok (.aload_n 0, 1) := by decide +kernel
theorem d_X_whatItWas_1 : decode b_X_whatItWas 1 = .ok (.iload_n 1, 1) := by decide +kernel
theorem d_X_whatItWas_2 : decode b_X_whatItWas 2 = .ok (.invokevirtual 112, 3) := by decide +kernel
theorem d_X_whatItWas_5 : decode b_X_whatItWas 5 = .ok (.iload_n 2, 1) := by decide +kernel
theorem d_X_whatItWas_6 : decode b_X_whatItWas 6 = .ok (.iconst 2, 1) := by decide +kernel
theorem d_X_whatItWas_7 : decode b_X_whatItWas 7 = .ok (.invokestatic 93, 3) := by decide +kernel
theorem d_X_whatItWas_10 : decode b_X_whatItWas 10 = .ok (.iconst 0, 1) := by decide +kernel
theorem d_X_whatItWas_11 : decode b_X_whatItWas 11 = .ok (.invokestatic 97, 3) := by decide +kernel
theorem d_X_whatItWas_14 : decode b_X_whatItWas 14 = .ok (.istore_n 3, 1) := by decide +kernel
theorem d_X_whatItWas_15 : decode b_X_whatItWas 15 = .ok (.iload_n 3, 1) := by decide +kernel
theorem d_X_whatItWas_16 : decode b_X_whatItWas 16 = .ok (.ifCond .eq 9, 3) := by decide +kernel
theorem d_X_whatItWas_19 : decode b_X_whatItWas 19 = .ok (.aload_n 0, 1) := by decide +kernel
theorem d_X_whatItWas_20 : decode b_X_whatItWas 20 = .ok (.iload_n 3, 1) := by decide +kernel
theorem d_X_whatItWas_21 : decode b_X_whatItWas 21 = .ok (.invokevirtual 69, 3) := by decide +kernel
theorem d_X_whatItWas_24 : decode b_X_whatItWas 24 = .ok (.ireturn, 1) := by decide +kernel
theorem d_X_whatItWas_25 : decode b_X_whatItWas 25 = .ok (.iload_n 2, 1) := by decide +kernel
theorem d_X_whatItWas_26 : decode b_X_whatItWas 26 = .ok (.ifCond .ne 12, 3) := by decide +kernel
theorem d_X_whatItWas_29 : decode b_X_whatItWas 29 = .ok (.aload_n 0, 1) := by decide +kernel
theorem d_X_whatItWas_30 : decode b_X_whatItWas 30 = .ok (.getfield 45, 3) := by decide +kernel
theorem d_X_whatItWas_33 : decode b_X_whatItWas 33 = .ok (.iload_n 1, 1) := by decide +kernel
theorem d_X_whatItWas_34 : decode b_X_whatItWas 34 = .ok (.invokevirtual 218, 3) := by decide +kernel
theorem d_X_whatItWas_37 : decode b_X_whatItWas 37 = .ok (.ireturn, 1) := by decide +kernel
theorem d_X_whatItWas_38 : decode b_X_whatItWas 38 = .ok (.iload_n 2, 1) := by decide +kernel
theorem d_X_whatItWas_39 : decode b_X_whatItWas 39 = .ok (.iconst 1, 1) := by decide +kernel
theorem d_X_whatItWas_40 : decode b_X_whatItWas 40 = .ok (.if_icmp .ne 14, 3) := by decide +kernel
theorem d_X_whatItWas_43 : decode b_X_whatItWas 43 = .ok (.aload_n 0, 1) := by decide +kernel
theorem d_X_whatItWas_44 : decode b_X_whatItWas 44 = .ok (.getfield 45, 3) := by decide +kernel
theorem d_X_whatItWas_47 : decode b_X_whatItWas 47 = .ok (.iload_n 1, 1) := by decide +kernel
theorem d_X_whatItWas_48 : decode b_X_whatItWas 48 = .ok (.invokevirtual 221, 3) := by decide +kernel
theorem d_X_whatItWas_51 : decode b_X_whatItWas 51 = .ok (.goto 11, 3) := by decide +kernel
theorem d_X_whatItWas_54 : decode b_X_whatItWas 54 = .ok (.aload_n 0, 1) := by decide +kernel
theorem d_X_whatItWas_55 : decode b_X_whatItWas 55 = .ok (.getfield 45, 3) := by decide +kernel
theorem d_X_whatItWas_58 : decode b_X_whatItWas 58 = .ok (.iload_n 1, 1) := by decide +kernel
theorem d_X_whatItWas_59 : decode b_X_whatItWas 59 = .ok (.invokevirtual 224, 3) := by decide +kernel
theorem d_X_whatItWas_62 : decode b_X_whatItWas 62 = .ok (.ireturn, 1) := by decide +kernel
abbrev b_M_firstNotAsTold : ByteArray := prog_7_method_25_code
def y_M_firstNotAsTold : MethodName := ⟨"PassedOnAndBetter$Mind", "firstNotAsTold", "(I)I"⟩
theorem m_M_firstNotAsTold : MV y_M_firstNotAsTold b_M_firstNotAsTold 4 (some .int) 1 := ⟨mG 818 (by decide +kernel) (by decide +kernel), mG 90 (by decide +kernel) (by decide +kernel), by decide +kernel⟩
theorem mi_M_firstNotAsTold : Cond.instanceMethod y_M_firstNotAsTold ∈ tbG := mG 817 (by decide +kernel) (by decide +kernel)
theorem ms_M_firstNotAsTold : Cond.selects y_M_firstNotAsTold.cls y_M_firstNotAsTold y_M_firstNotAsTold ∈ tbG := mG 26 (by decide +kernel) (by decide +kernel)
theorem d_M_firstNotAsTold_0 : decode b_M_firstNotAsTold 0 = .ok (.aload_n 0, 1) := by decide +kernel
theorem d_M_firstNotAsTold_1 : decode b_M_firstNotAsTold 1 = .ok (.getfield 22, 3) := by decide +kernel
theorem d_M_firstNotAsTold_4 : decode b_M_firstNotAsTold 4 = .ok (.iload_n 1, 1) := by decide +kernel
theorem d_M_firstNotAsTold_5 : decode b_M_firstNotAsTold 5 = .ok (.invokevirtual 45, 3) := by decide +kernel
theorem d_M_firstNotAsTold_8 : decode b_M_firstNotAsTold 8 = .ok (.astore_n 2, 1) := by decide +kernel
theorem d_M_firstNotAsTold_9 : decode b_M_firstNotAsTold 9 = .ok (.iconst 0, 1) := by decide +kernel
theorem d_M_firstNotAsTold_10 : decode b_M_firstNotAsTold 10 = .ok (.istore_n 3, 1) := by decide +kernel
theorem d_M_firstNotAsTold_11 : decode b_M_firstNotAsTold 11 = .ok (.iload_n 3, 1) := by decide +kernel
theorem d_M_firstNotAsTold_12 : decode b_M_firstNotAsTold 12 = .ok (.aload_n 0, 1) := by decide +kernel
theorem d_M_firstNotAsTold_13 : decode b_M_firstNotAsTold 13 = .ok (.getfield 15, 3) := by decide +kernel
theorem d_M_firstNotAsTold_16 : decode b_M_firstNotAsTold 16 = .ok (.getfield 144, 3) := by decide +kernel
theorem d_M_firstNotAsTold_19 : decode b_M_firstNotAsTold 19 = .ok (.if_icmp .ge 34, 3) := by decide +kernel
theorem d_M_firstNotAsTold_22 : decode b_M_firstNotAsTold 22 = .ok (.aload_n 2, 1) := by decide +kernel
theorem d_M_firstNotAsTold_23 : decode b_M_firstNotAsTold 23 = .ok (.getfield 53, 3) := by decide +kernel
theorem d_M_firstNotAsTold_26 : decode b_M_firstNotAsTold 26 = .ok (.aload_n 0, 1) := by decide +kernel
theorem d_M_firstNotAsTold_27 : decode b_M_firstNotAsTold 27 = .ok (.getfield 15, 3) := by decide +kernel
theorem d_M_firstNotAsTold_30 : decode b_M_firstNotAsTold 30 = .ok (.iload_n 3, 1) := by decide +kernel
theorem d_M_firstNotAsTold_31 : decode b_M_firstNotAsTold 31 = .ok (.invokevirtual 149, 3) := by decide +kernel
theorem d_M_firstNotAsTold_34 : decode b_M_firstNotAsTold 34 = .ok (.if_icmp .eq 5, 3) := by decide +kernel
theorem d_M_firstNotAsTold_37 : decode b_M_firstNotAsTold 37 = .ok (.iload_n 3, 1) := by decide +kernel
theorem d_M_firstNotAsTold_38 : decode b_M_firstNotAsTold 38 = .ok (.ireturn, 1) := by decide +kernel
theorem d_M_firstNotAsTold_39 : decode b_M_firstNotAsTold 39 = .ok (.aload_n 2, 1) := by decide +kernel
theorem d_M_firstNotAsTold_40 : decode b_M_firstNotAsTold 40 = .ok (.aload_n 0, 1) := by decide +kernel
theorem d_M_firstNotAsTold_41 : decode b_M_firstNotAsTold 41 = .ok (.getfield 22, 3) := by decide +kernel
theorem d_M_firstNotAsTold_44 : decode b_M_firstNotAsTold 44 = .ok (.invokevirtual 36, 3) := by decide +kernel
theorem d_M_firstNotAsTold_47 : decode b_M_firstNotAsTold 47 = .ok (.iinc 3 1, 3) := by decide +kernel
theorem d_M_firstNotAsTold_50 : decode b_M_firstNotAsTold 50 = .ok (.goto (-39), 3) := by decide +kernel
theorem d_M_firstNotAsTold_53 : decode b_M_firstNotAsTold 53 = .ok (.bipush (-9), 2) := by decide +kernel
theorem d_M_firstNotAsTold_55 : decode b_M_firstNotAsTold 55 = .ok (.ireturn, 1) := by decide +kernel
abbrev b_M_firstNotWith : ByteArray := prog_7_method_23_code
def y_M_firstNotWith : MethodName := ⟨"PassedOnAndBetter$Mind", "firstNotWith", "(I)I"⟩
theorem m_M_firstNotWith : MV y_M_firstNotWith b_M_firstNotWith 2 (some .int) 1 := ⟨mG 814 (by decide +kernel) (by decide +kernel), mG 90 (by decide +kernel) (by decide +kernel), by decide +kernel⟩
theorem mi_M_firstNotWith : Cond.instanceMethod y_M_firstNotWith ∈ tbG := mG 812 (by decide +kernel) (by decide +kernel)
theorem ms_M_firstNotWith : Cond.selects y_M_firstNotWith.cls y_M_firstNotWith y_M_firstNotWith ∈ tbG := mG 813 (by decide +kernel) (by decide +kernel)
theorem d_M_firstNotWith_0 : decode b_M_firstNotWith 0 = .ok (.aload_n 0, 1) := by decide +kernel
theorem d_M_firstNotWith_1 : decode b_M_firstNotWith 1 = .ok (.invokevirtual 41, 3) := by decide +kernel
theorem d_M_firstNotWith_4 : decode b_M_firstNotWith 4 = .ok (.pop, 1) := by decide +kernel
theorem d_M_firstNotWith_5 : decode b_M_firstNotWith 5 = .ok (.aload_n 0, 1) := by decide +kernel
theorem d_M_firstNotWith_6 : decode b_M_firstNotWith 6 = .ok (.iload_n 1, 1) := by decide +kernel
theorem d_M_firstNotWith_7 : decode b_M_firstNotWith 7 = .ok (.invokevirtual 152, 3) := by decide +kernel
theorem d_M_firstNotWith_10 : decode b_M_firstNotWith 10 = .ok (.ireturn, 1) := by decide +kernel
abbrev b_M_startsToldBy : ByteArray := prog_7_method_24_code
def y_M_startsToldBy : MethodName := ⟨"PassedOnAndBetter$Mind", "startsToldBy", "(I)I"⟩
theorem m_M_startsToldBy : MV y_M_startsToldBy b_M_startsToldBy 4 (some .int) 1 := ⟨mG 822 (by decide +kernel) (by decide +kernel), mG 90 (by decide +kernel) (by decide +kernel), by decide +kernel⟩
theorem mi_M_startsToldBy : Cond.instanceMethod y_M_startsToldBy ∈ tbG := mG 820 (by decide +kernel) (by decide +kernel)
theorem ms_M_startsToldBy : Cond.selects y_M_startsToldBy.cls y_M_startsToldBy y_M_startsToldBy ∈ tbG := mG 821 (by decide +kernel) (by decide +kernel)
theorem d_M_startsToldBy_0 : decode b_M_startsToldBy 0 = .ok (.iconst 0, 1) := by decide +kernel
theorem d_M_startsToldBy_1 : decode b_M_startsToldBy 1 = .ok (.istore_n 2, 1) := by decide +kernel
theorem d_M_startsToldBy_2 : decode b_M_startsToldBy 2 = .ok (.iconst 0, 1) := by decide +kernel
theorem d_M_startsToldBy_3 : decode b_M_startsToldBy 3 = .ok (.istore_n 3, 1) := by decide +kernel
theorem d_M_startsToldBy_4 : decode b_M_startsToldBy 4 = .ok (.iload_n 3, 1) := by decide +kernel
theorem d_M_startsToldBy_5 : decode b_M_startsToldBy 5 = .ok (.aload_n 0, 1) := by decide +kernel
theorem d_M_startsToldBy_6 : decode b_M_startsToldBy 6 = .ok (.getfield 9, 3) := by decide +kernel
theorem d_M_startsToldBy_9 : decode b_M_startsToldBy 9 = .ok (.getfield 97, 3) := by decide +kernel
theorem d_M_startsToldBy_12 : decode b_M_startsToldBy 12 = .ok (.if_icmp .ge 37, 3) := by decide +kernel
theorem d_M_startsToldBy_15 : decode b_M_startsToldBy 15 = .ok (.aload_n 0, 1) := by decide +kernel
theorem d_M_startsToldBy_16 : decode b_M_startsToldBy 16 = .ok (.invokevirtual 41, 3) := by decide +kernel
theorem d_M_startsToldBy_19 : decode b_M_startsToldBy 19 = .ok (.iload_n 1, 1) := by decide +kernel
theorem d_M_startsToldBy_20 : decode b_M_startsToldBy 20 = .ok (.invokevirtual 45, 3) := by decide +kernel
theorem d_M_startsToldBy_23 : decode b_M_startsToldBy 23 = .ok (.iload_n 3, 1) := by decide +kernel
theorem d_M_startsToldBy_24 : decode b_M_startsToldBy 24 = .ok (.invokevirtual 100, 3) := by decide +kernel
theorem d_M_startsToldBy_27 : decode b_M_startsToldBy 27 = .ok (.aload_n 0, 1) := by decide +kernel
theorem d_M_startsToldBy_28 : decode b_M_startsToldBy 28 = .ok (.iload_n 1, 1) := by decide +kernel
theorem d_M_startsToldBy_29 : decode b_M_startsToldBy 29 = .ok (.invokevirtual 152, 3) := by decide +kernel
theorem d_M_startsToldBy_32 : decode b_M_startsToldBy 32 = .ok (.bipush (-9), 2) := by decide +kernel
theorem d_M_startsToldBy_34 : decode b_M_startsToldBy 34 = .ok (.if_icmp .ne 9, 3) := by decide +kernel
theorem d_M_startsToldBy_37 : decode b_M_startsToldBy 37 = .ok (.iload_n 2, 1) := by decide +kernel
theorem d_M_startsToldBy_38 : decode b_M_startsToldBy 38 = .ok (.iconst 1, 1) := by decide +kernel
theorem d_M_startsToldBy_39 : decode b_M_startsToldBy 39 = .ok (.iload_n 3, 1) := by decide +kernel
theorem d_M_startsToldBy_40 : decode b_M_startsToldBy 40 = .ok (.ishl, 1) := by decide +kernel
theorem d_M_startsToldBy_41 : decode b_M_startsToldBy 41 = .ok (.ior, 1) := by decide +kernel
theorem d_M_startsToldBy_42 : decode b_M_startsToldBy 42 = .ok (.istore_n 2, 1) := by decide +kernel
theorem d_M_startsToldBy_43 : decode b_M_startsToldBy 43 = .ok (.iinc 3 1, 3) := by decide +kernel
theorem d_M_startsToldBy_46 : decode b_M_startsToldBy 46 = .ok (.goto (-42), 3) := by decide +kernel
theorem d_M_startsToldBy_49 : decode b_M_startsToldBy 49 = .ok (.iload_n 2, 1) := by decide +kernel
theorem d_M_startsToldBy_50 : decode b_M_startsToldBy 50 = .ok (.ireturn, 1) := by decide +kernel
