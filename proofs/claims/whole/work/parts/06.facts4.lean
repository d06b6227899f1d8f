abbrev b_R_passesAll : ByteArray := prog_11_method_25_code
def y_R_passesAll : MethodName := ⟨"PassedOnAndBetterModel", "passesAll", "(IZ)V"⟩
theorem m_R_passesAll : MV y_R_passesAll b_R_passesAll 3 none 2 := ⟨mG 1137 (by decide +kernel) (by decide +kernel), mG 91 (by decide +kernel) (by decide +kernel), by decide +kernel⟩
theorem mi_R_passesAll : Cond.instanceMethod y_R_passesAll ∈ tbG := mG 1136 (by decide +kernel) (by decide +kernel)
theorem ms_R_passesAll : Cond.selects y_R_passesAll.cls y_R_passesAll y_R_passesAll ∈ tbG := mG 35 (by decide +kernel) (by decide +kernel)
theorem d_R_passesAll_0 : decode b_R_passesAll 0 = .ok (.aload_n 0, 1) := by decide +kernel
theorem d_R_passesAll_1 : decode b_R_passesAll 1 = .ok (.bipush 51, 2) := by decide +kernel
theorem d_R_passesAll_3 : decode b_R_passesAll 3 = .ok (.iload_n 1, 1) := by decide +kernel
theorem d_R_passesAll_4 : decode b_R_passesAll 4 = .ok (.imul, 1) := by decide +kernel
theorem d_R_passesAll_5 : decode b_R_passesAll 5 = .ok (.putfield 169, 3) := by decide +kernel
theorem d_R_passesAll_8 : decode b_R_passesAll 8 = .ok (.aload_n 0, 1) := by decide +kernel
theorem d_R_passesAll_9 : decode b_R_passesAll 9 = .ok (.iload_n 2, 1) := by decide +kernel
theorem d_R_passesAll_10 : decode b_R_passesAll 10 = .ok (.putfield 165, 3) := by decide +kernel
theorem d_R_passesAll_13 : decode b_R_passesAll 13 = .ok (.aload_n 0, 1) := by decide +kernel
theorem d_R_passesAll_14 : decode b_R_passesAll 14 = .ok (.aload_n 0, 1) := by decide +kernel
theorem d_R_passesAll_15 : decode b_R_passesAll 15 = .ok (.getfield 13, 3) := by decide +kernel
theorem d_R_passesAll_18 : decode b_R_passesAll 18 = .ok (.invokevirtual 172, 3) := by decide +kernel
theorem d_R_passesAll_21 : decode b_R_passesAll 21 = .ok (.aload_n 0, 1) := by decide +kernel
theorem d_R_passesAll_22 : decode b_R_passesAll 22 = .ok (.aload_n 0, 1) := by decide +kernel
theorem d_R_passesAll_23 : decode b_R_passesAll 23 = .ok (.getfield 16, 3) := by decide +kernel
theorem d_R_passesAll_26 : decode b_R_passesAll 26 = .ok (.invokevirtual 172, 3) := by decide +kernel
theorem d_R_passesAll_29 : decode b_R_passesAll 29 = .ok (.aload_n 0, 1) := by decide +kernel
theorem d_R_passesAll_30 : decode b_R_passesAll 30 = .ok (.aload_n 0, 1) := by decide +kernel
theorem d_R_passesAll_31 : decode b_R_passesAll 31 = .ok (.getfield 19, 3) := by decide +kernel
theorem d_R_passesAll_34 : decode b_R_passesAll 34 = .ok (.invokevirtual 172, 3) := by decide +kernel
theorem d_R_passesAll_37 : decode b_R_passesAll 37 = .ok (.aload_n 0, 1) := by decide +kernel
theorem d_R_passesAll_38 : decode b_R_passesAll 38 = .ok (.aload_n 0, 1) := by decide +kernel
theorem d_R_passesAll_39 : decode b_R_passesAll 39 = .ok (.getfield 22, 3) := by decide +kernel
theorem d_R_passesAll_42 : decode b_R_passesAll 42 = .ok (.invokevirtual 172, 3) := by decide +kernel
theorem d_R_passesAll_45 : decode b_R_passesAll 45 = .ok (.aload_n 0, 1) := by decide +kernel
theorem d_R_passesAll_46 : decode b_R_passesAll 46 = .ok (.aload_n 0, 1) := by decide +kernel
theorem d_R_passesAll_47 : decode b_R_passesAll 47 = .ok (.getfield 25, 3) := by decide +kernel
theorem d_R_passesAll_50 : decode b_R_passesAll 50 = .ok (.invokevirtual 172, 3) := by decide +kernel
theorem d_R_passesAll_53 : decode b_R_passesAll 53 = .ok (.aload_n 0, 1) := by decide +kernel
theorem d_R_passesAll_54 : decode b_R_passesAll 54 = .ok (.aload_n 0, 1) := by decide +kernel
theorem d_R_passesAll_55 : decode b_R_passesAll 55 = .ok (.getfield 28, 3) := by decide +kernel
theorem d_R_passesAll_58 : decode b_R_passesAll 58 = .ok (.invokevirtual 172, 3) := by decide +kernel
theorem d_R_passesAll_61 : decode b_R_passesAll 61 = .ok (.aload_n 0, 1) := by decide +kernel
theorem d_R_passesAll_62 : decode b_R_passesAll 62 = .ok (.aload_n 0, 1) := by decide +kernel
theorem d_R_passesAll_63 : decode b_R_passesAll 63 = .ok (.getfield 31, 3) := by decide +kernel
theorem d_R_passesAll_66 : decode b_R_passesAll 66 = .ok (.invokevirtual 172, 3) := by decide +kernel
theorem d_R_passesAll_69 : decode b_R_passesAll 69 = .ok (.aload_n 0, 1) := by decide +kernel
theorem d_R_passesAll_70 : decode b_R_passesAll 70 = .ok (.aload_n 0, 1) := by decide +kernel
theorem d_R_passesAll_71 : decode b_R_passesAll 71 = .ok (.getfield 34, 3) := by decide +kernel
theorem d_R_passesAll_74 : decode b_R_passesAll 74 = .ok (.invokevirtual 172, 3) := by decide +kernel
theorem d_R_passesAll_77 : decode b_R_passesAll 77 = .ok (.aload_n 0, 1) := by decide +kernel
theorem d_R_passesAll_78 : decode b_R_passesAll 78 = .ok (.aload_n 0, 1) := by decide +kernel
theorem d_R_passesAll_79 : decode b_R_passesAll 79 = .ok (.getfield 37, 3) := by decide +kernel
theorem d_R_passesAll_82 : decode b_R_passesAll 82 = .ok (.invokevirtual 172, 3) := by decide +kernel
theorem d_R_passesAll_85 : decode b_R_passesAll 85 = .ok (.aload_n 0, 1) := by decide +kernel
theorem d_R_passesAll_86 : decode b_R_passesAll 86 = .ok (.aload_n 0, 1) := by decide +kernel
theorem d_R_passesAll_87 : decode b_R_passesAll 87 = .ok (.getfield 40, 3) := by decide +kernel
theorem d_R_passesAll_90 : decode b_R_passesAll 90 = .ok (.invokevirtual 172, 3) := by decide +kernel
theorem d_R_passesAll_93 : decode b_R_passesAll 93 = .ok (.aload_n 0, 1) := by decide +kernel
theorem d_R_passesAll_94 : decode b_R_passesAll 94 = .ok (.aload_n 0, 1) := by decide +kernel
theorem d_R_passesAll_95 : decode b_R_passesAll 95 = .ok (.aload_n 0, 1) := by decide +kernel
theorem d_R_passesAll_96 : decode b_R_passesAll 96 = .ok (.getfield 73, 3) := by decide +kernel
theorem d_R_passesAll_99 : decode b_R_passesAll 99 = .ok (.invokevirtual 176, 3) := by decide +kernel
theorem d_R_passesAll_102 : decode b_R_passesAll 102 = .ok (.putfield 73, 3) := by decide +kernel
theorem d_R_passesAll_105 : decode b_R_passesAll 105 = .ok (.aload_n 0, 1) := by decide +kernel
theorem d_R_passesAll_106 : decode b_R_passesAll 106 = .ok (.aload_n 0, 1) := by decide +kernel
theorem d_R_passesAll_107 : decode b_R_passesAll 107 = .ok (.aload_n 0, 1) := by decide +kernel
theorem d_R_passesAll_108 : decode b_R_passesAll 108 = .ok (.getfield 67, 3) := by decide +kernel
theorem d_R_passesAll_111 : decode b_R_passesAll 111 = .ok (.invokevirtual 176, 3) := by decide +kernel
theorem d_R_passesAll_114 : decode b_R_passesAll 114 = .ok (.putfield 67, 3) := by decide +kernel
theorem d_R_passesAll_117 : decode b_R_passesAll 117 = .ok (.aload_n 0, 1) := by decide +kernel
theorem d_R_passesAll_118 : decode b_R_passesAll 118 = .ok (.aload_n 0, 1) := by decide +kernel
theorem d_R_passesAll_119 : decode b_R_passesAll 119 = .ok (.aload_n 0, 1) := by decide +kernel
theorem d_R_passesAll_120 : decode b_R_passesAll 120 = .ok (.getfield 126, 3) := by decide +kernel
theorem d_R_passesAll_123 : decode b_R_passesAll 123 = .ok (.invokevirtual 176, 3) := by decide +kernel
theorem d_R_passesAll_126 : decode b_R_passesAll 126 = .ok (.putfield 126, 3) := by decide +kernel
theorem d_R_passesAll_129 : decode b_R_passesAll 129 = .ok (.return_, 1) := by decide +kernel
abbrev b_R_addsFriend : ByteArray := prog_11_method_34_code
def y_R_addsFriend : MethodName := ⟨"PassedOnAndBetterModel", "addsFriend", "(III)V"⟩
theorem m_R_addsFriend : MV y_R_addsFriend b_R_addsFriend 4 none 3 := ⟨mG 1157 (by decide +kernel) (by decide +kernel), mG 91 (by decide +kernel) (by decide +kernel), by decide +kernel⟩
theorem mi_R_addsFriend : Cond.instanceMethod y_R_addsFriend ∈ tbG := mG 1156 (by decide +kernel) (by decide +kernel)
theorem ms_R_addsFriend : Cond.selects y_R_addsFriend.cls y_R_addsFriend y_R_addsFriend ∈ tbG := mG 40 (by decide +kernel) (by decide +kernel)
theorem d_R_addsFriend_0 : decode b_R_addsFriend 0 = .ok (.aload_n 0, 1) := by decide +kernel
theorem d_R_addsFriend_1 : decode b_R_addsFriend 1 = .ok (.getfield 13, 3) := by decide +kernel
theorem d_R_addsFriend_4 : decode b_R_addsFriend 4 = .ok (.aload_n 0, 1) := by decide +kernel
theorem d_R_addsFriend_5 : decode b_R_addsFriend 5 = .ok (.getfield 73, 3) := by decide +kernel
theorem d_R_addsFriend_8 : decode b_R_addsFriend 8 = .ok (.iload_n 1, 1) := by decide +kernel
theorem d_R_addsFriend_9 : decode b_R_addsFriend 9 = .ok (.iastore, 1) := by decide +kernel
theorem d_R_addsFriend_10 : decode b_R_addsFriend 10 = .ok (.aload_n 0, 1) := by decide +kernel
theorem d_R_addsFriend_11 : decode b_R_addsFriend 11 = .ok (.getfield 16, 3) := by decide +kernel
theorem d_R_addsFriend_14 : decode b_R_addsFriend 14 = .ok (.aload_n 0, 1) := by decide +kernel
theorem d_R_addsFriend_15 : decode b_R_addsFriend 15 = .ok (.getfield 73, 3) := by decide +kernel
theorem d_R_addsFriend_18 : decode b_R_addsFriend 18 = .ok (.iload_n 2, 1) := by decide +kernel
theorem d_R_addsFriend_19 : decode b_R_addsFriend 19 = .ok (.iastore, 1) := by decide +kernel
theorem d_R_addsFriend_20 : decode b_R_addsFriend 20 = .ok (.aload_n 0, 1) := by decide +kernel
theorem d_R_addsFriend_21 : decode b_R_addsFriend 21 = .ok (.getfield 19, 3) := by decide +kernel
theorem d_R_addsFriend_24 : decode b_R_addsFriend 24 = .ok (.aload_n 0, 1) := by decide +kernel
theorem d_R_addsFriend_25 : decode b_R_addsFriend 25 = .ok (.getfield 73, 3) := by decide +kernel
theorem d_R_addsFriend_28 : decode b_R_addsFriend 28 = .ok (.iload_n 3, 1) := by decide +kernel
theorem d_R_addsFriend_29 : decode b_R_addsFriend 29 = .ok (.iastore, 1) := by decide +kernel
theorem d_R_addsFriend_30 : decode b_R_addsFriend 30 = .ok (.aload_n 0, 1) := by decide +kernel
theorem d_R_addsFriend_31 : decode b_R_addsFriend 31 = .ok (.getfield 22, 3) := by decide +kernel
theorem d_R_addsFriend_34 : decode b_R_addsFriend 34 = .ok (.aload_n 0, 1) := by decide +kernel
theorem d_R_addsFriend_35 : decode b_R_addsFriend 35 = .ok (.getfield 73, 3) := by decide +kernel
theorem d_R_addsFriend_38 : decode b_R_addsFriend 38 = .ok (.bipush (-9), 2) := by decide +kernel
theorem d_R_addsFriend_40 : decode b_R_addsFriend 40 = .ok (.iastore, 1) := by decide +kernel
theorem d_R_addsFriend_41 : decode b_R_addsFriend 41 = .ok (.aload_n 0, 1) := by decide +kernel
theorem d_R_addsFriend_42 : decode b_R_addsFriend 42 = .ok (.dup, 1) := by decide +kernel
theorem d_R_addsFriend_43 : decode b_R_addsFriend 43 = .ok (.getfield 73, 3) := by decide +kernel
theorem d_R_addsFriend_46 : decode b_R_addsFriend 46 = .ok (.iconst 1, 1) := by decide +kernel
theorem d_R_addsFriend_47 : decode b_R_addsFriend 47 = .ok (.iadd, 1) := by decide +kernel
theorem d_R_addsFriend_48 : decode b_R_addsFriend 48 = .ok (.putfield 73, 3) := by decide +kernel
theorem d_R_addsFriend_51 : decode b_R_addsFriend 51 = .ok (.return_, 1) := by decide +kernel
abbrev b_R_comesFriend : ByteArray := prog_11_method_17_code
def y_R_comesFriend : MethodName := ⟨"PassedOnAndBetterModel", "comesFriend", "(III)Z"⟩
theorem m_R_comesFriend : MV y_R_comesFriend b_R_comesFriend 4 (some .boolean) 3 := ⟨mG 1153 (by decide +kernel) (by decide +kernel), mG 91 (by decide +kernel) (by decide +kernel), by decide +kernel⟩
theorem mi_R_comesFriend : Cond.instanceMethod y_R_comesFriend ∈ tbG := mG 1152 (by decide +kernel) (by decide +kernel)
theorem ms_R_comesFriend : Cond.selects y_R_comesFriend.cls y_R_comesFriend y_R_comesFriend ∈ tbG := mG 39 (by decide +kernel) (by decide +kernel)
theorem d_R_comesFriend_0 : decode b_R_comesFriend 0 = .ok (.iload_n 1, 1) := by decide +kernel
theorem d_R_comesFriend_1 : decode b_R_comesFriend 1 = .ok (.iconst 5, 1) := by decide +kernel
theorem d_R_comesFriend_2 : decode b_R_comesFriend 2 = .ok (.if_icmp .gt 16, 3) := by decide +kernel
theorem d_R_comesFriend_5 : decode b_R_comesFriend 5 = .ok (.iload_n 3, 1) := by decide +kernel
theorem d_R_comesFriend_6 : decode b_R_comesFriend 6 = .ok (.ifCond .eq 12, 3) := by decide +kernel
theorem d_R_comesFriend_9 : decode b_R_comesFriend 9 = .ok (.aload_n 0, 1) := by decide +kernel
theorem d_R_comesFriend_10 : decode b_R_comesFriend 10 = .ok (.getfield 73, 3) := by decide +kernel
theorem d_R_comesFriend_13 : decode b_R_comesFriend 13 = .ok (.bipush 6, 2) := by decide +kernel
theorem d_R_comesFriend_15 : decode b_R_comesFriend 15 = .ok (.if_icmp .ne 5, 3) := by decide +kernel
theorem d_R_comesFriend_18 : decode b_R_comesFriend 18 = .ok (.iconst 0, 1) := by decide +kernel
theorem d_R_comesFriend_19 : decode b_R_comesFriend 19 = .ok (.ireturn, 1) := by decide +kernel
theorem d_R_comesFriend_20 : decode b_R_comesFriend 20 = .ok (.aload_n 0, 1) := by decide +kernel
theorem d_R_comesFriend_21 : decode b_R_comesFriend 21 = .ok (.iload_n 1, 1) := by decide +kernel
theorem d_R_comesFriend_22 : decode b_R_comesFriend 22 = .ok (.iload_n 2, 1) := by decide +kernel
theorem d_R_comesFriend_23 : decode b_R_comesFriend 23 = .ok (.iload_n 3, 1) := by decide +kernel
theorem d_R_comesFriend_24 : decode b_R_comesFriend 24 = .ok (.invokevirtual 112, 3) := by decide +kernel
theorem d_R_comesFriend_27 : decode b_R_comesFriend 27 = .ok (.iconst 1, 1) := by decide +kernel
theorem d_R_comesFriend_28 : decode b_R_comesFriend 28 = .ok (.ireturn, 1) := by decide +kernel
abbrev b_R_isFriend : ByteArray := prog_11_method_9_code
def y_R_isFriend : MethodName := ⟨"PassedOnAndBetterModel", "isFriend", "(I)Z"⟩
theorem m_R_isFriend : MV y_R_isFriend b_R_isFriend 2 (some .boolean) 1 := ⟨mG 1165 (by decide +kernel) (by decide +kernel), mG 91 (by decide +kernel) (by decide +kernel), by decide +kernel⟩
theorem mi_R_isFriend : Cond.instanceMethod y_R_isFriend ∈ tbG := mG 1164 (by decide +kernel) (by decide +kernel)
theorem ms_R_isFriend : Cond.selects y_R_isFriend.cls y_R_isFriend y_R_isFriend ∈ tbG := mG 42 (by decide +kernel) (by decide +kernel)
theorem d_R_isFriend_0 : decode b_R_isFriend 0 = .ok (.iload_n 1, 1) := by decide +kernel
theorem d_R_isFriend_1 : decode b_R_isFriend 1 = .ok (.ifCond .lt 15, 3) := by decide +kernel
theorem d_R_isFriend_4 : decode b_R_isFriend 4 = .ok (.iload_n 1, 1) := by decide +kernel
theorem d_R_isFriend_5 : decode b_R_isFriend 5 = .ok (.aload_n 0, 1) := by decide +kernel
theorem d_R_isFriend_6 : decode b_R_isFriend 6 = .ok (.getfield 73, 3) := by decide +kernel
theorem d_R_isFriend_9 : decode b_R_isFriend 9 = .ok (.if_icmp .ge 7, 3) := by decide +kernel
theorem d_R_isFriend_12 : decode b_R_isFriend 12 = .ok (.iconst 1, 1) := by decide +kernel
theorem d_R_isFriend_13 : decode b_R_isFriend 13 = .ok (.goto 4, 3) := by decide +kernel
theorem d_R_isFriend_16 : decode b_R_isFriend 16 = .ok (.iconst 0, 1) := by decide +kernel
theorem d_R_isFriend_17 : decode b_R_isFriend 17 = .ok (.ireturn, 1) := by decide +kernel
abbrev b_R_puts : ByteArray := prog_11_method_36_code
def y_R_puts : MethodName := ⟨"PassedOnAndBetterModel", "puts", "(II)V"⟩
theorem m_R_puts : MV y_R_puts b_R_puts 3 none 2 := ⟨mG 1173 (by decide +kernel) (by decide +kernel), mG 91 (by decide +kernel) (by decide +kernel), by decide +kernel⟩
theorem mi_R_puts : Cond.instanceMethod y_R_puts ∈ tbG := mG 1172 (by decide +kernel) (by decide +kernel)
theorem ms_R_puts : Cond.selects y_R_puts.cls y_R_puts y_R_puts ∈ tbG := mG 44 (by decide +kernel) (by decide +kernel)
theorem d_R_puts_0 : decode b_R_puts 0 = .ok (.aload_n 0, 1) := by decide +kernel
theorem d_R_puts_1 : decode b_R_puts 1 = .ok (.getfield 31, 3) := by decide +kernel
theorem d_R_puts_4 : decode b_R_puts 4 = .ok (.iload_n 1, 1) := by decide +kernel
theorem d_R_puts_5 : decode b_R_puts 5 = .ok (.iload_n 2, 1) := by decide +kernel
theorem d_R_puts_6 : decode b_R_puts 6 = .ok (.iastore, 1) := by decide +kernel
theorem d_R_puts_7 : decode b_R_puts 7 = .ok (.aload_n 0, 1) := by decide +kernel
theorem d_R_puts_8 : decode b_R_puts 8 = .ok (.getfield 34, 3) := by decide +kernel
theorem d_R_puts_11 : decode b_R_puts 11 = .ok (.iload_n 1, 1) := by decide +kernel
theorem d_R_puts_12 : decode b_R_puts 12 = .ok (.iconst 0, 1) := by decide +kernel
theorem d_R_puts_13 : decode b_R_puts 13 = .ok (.iastore, 1) := by decide +kernel
theorem d_R_puts_14 : decode b_R_puts 14 = .ok (.aload_n 0, 1) := by decide +kernel
theorem d_R_puts_15 : decode b_R_puts 15 = .ok (.getfield 37, 3) := by decide +kernel
theorem d_R_puts_18 : decode b_R_puts 18 = .ok (.iload_n 1, 1) := by decide +kernel
theorem d_R_puts_19 : decode b_R_puts 19 = .ok (.iconst 0, 1) := by decide +kernel
theorem d_R_puts_20 : decode b_R_puts 20 = .ok (.iastore, 1) := by decide +kernel
theorem d_R_puts_21 : decode b_R_puts 21 = .ok (.return_, 1) := by decide +kernel
abbrev b_R_addsGift : ByteArray := prog_11_method_35_code
def y_R_addsGift : MethodName := ⟨"PassedOnAndBetterModel", "addsGift", "(III)V"⟩
theorem m_R_addsGift : MV y_R_addsGift b_R_addsGift 4 none 3 := ⟨mG 1169 (by decide +kernel) (by decide +kernel), mG 91 (by decide +kernel) (by decide +kernel), by decide +kernel⟩
theorem mi_R_addsGift : Cond.instanceMethod y_R_addsGift ∈ tbG := mG 1168 (by decide +kernel) (by decide +kernel)
theorem ms_R_addsGift : Cond.selects y_R_addsGift.cls y_R_addsGift y_R_addsGift ∈ tbG := mG 43 (by decide +kernel) (by decide +kernel)
theorem d_R_addsGift_0 : decode b_R_addsGift 0 = .ok (.aload_n 0, 1) := by decide +kernel
theorem d_R_addsGift_1 : decode b_R_addsGift 1 = .ok (.getfield 25, 3) := by decide +kernel
theorem d_R_addsGift_4 : decode b_R_addsGift 4 = .ok (.aload_n 0, 1) := by decide +kernel
theorem d_R_addsGift_5 : decode b_R_addsGift 5 = .ok (.getfield 67, 3) := by decide +kernel
theorem d_R_addsGift_8 : decode b_R_addsGift 8 = .ok (.iload_n 1, 1) := by decide +kernel
theorem d_R_addsGift_9 : decode b_R_addsGift 9 = .ok (.iastore, 1) := by decide +kernel
theorem d_R_addsGift_10 : decode b_R_addsGift 10 = .ok (.aload_n 0, 1) := by decide +kernel
theorem d_R_addsGift_11 : decode b_R_addsGift 11 = .ok (.getfield 28, 3) := by decide +kernel
theorem d_R_addsGift_14 : decode b_R_addsGift 14 = .ok (.aload_n 0, 1) := by decide +kernel
theorem d_R_addsGift_15 : decode b_R_addsGift 15 = .ok (.getfield 67, 3) := by decide +kernel
theorem d_R_addsGift_18 : decode b_R_addsGift 18 = .ok (.iload_n 2, 1) := by decide +kernel
theorem d_R_addsGift_19 : decode b_R_addsGift 19 = .ok (.iastore, 1) := by decide +kernel
theorem d_R_addsGift_20 : decode b_R_addsGift 20 = .ok (.aload_n 0, 1) := by decide +kernel
theorem d_R_addsGift_21 : decode b_R_addsGift 21 = .ok (.getfield 40, 3) := by decide +kernel
theorem d_R_addsGift_24 : decode b_R_addsGift 24 = .ok (.aload_n 0, 1) := by decide +kernel
theorem d_R_addsGift_25 : decode b_R_addsGift 25 = .ok (.getfield 67, 3) := by decide +kernel
theorem d_R_addsGift_28 : decode b_R_addsGift 28 = .ok (.iconst 0, 1) := by decide +kernel
theorem d_R_addsGift_29 : decode b_R_addsGift 29 = .ok (.iastore, 1) := by decide +kernel
theorem d_R_addsGift_30 : decode b_R_addsGift 30 = .ok (.aload_n 0, 1) := by decide +kernel
theorem d_R_addsGift_31 : decode b_R_addsGift 31 = .ok (.aload_n 0, 1) := by decide +kernel
theorem d_R_addsGift_32 : decode b_R_addsGift 32 = .ok (.getfield 67, 3) := by decide +kernel
theorem d_R_addsGift_35 : decode b_R_addsGift 35 = .ok (.iload_n 3, 1) := by decide +kernel
theorem d_R_addsGift_36 : decode b_R_addsGift 36 = .ok (.invokevirtual 145, 3) := by decide +kernel
theorem d_R_addsGift_39 : decode b_R_addsGift 39 = .ok (.aload_n 0, 1) := by decide +kernel
theorem d_R_addsGift_40 : decode b_R_addsGift 40 = .ok (.dup, 1) := by decide +kernel
theorem d_R_addsGift_41 : decode b_R_addsGift 41 = .ok (.getfield 67, 3) := by decide +kernel
theorem d_R_addsGift_44 : decode b_R_addsGift 44 = .ok (.iconst 1, 1) := by decide +kernel
theorem d_R_addsGift_45 : decode b_R_addsGift 45 = .ok (.iadd, 1) := by decide +kernel
theorem d_R_addsGift_46 : decode b_R_addsGift 46 = .ok (.putfield 67, 3) := by decide +kernel
theorem d_R_addsGift_49 : decode b_R_addsGift 49 = .ok (.return_, 1) := by decide +kernel
abbrev b_R_comesGift : ByteArray := prog_11_method_18_code
def y_R_comesGift : MethodName := ⟨"PassedOnAndBetterModel", "comesGift", "(III)Z"⟩
theorem m_R_comesGift : MV y_R_comesGift b_R_comesGift 4 (some .boolean) 3 := ⟨mG 1161 (by decide +kernel) (by decide +kernel), mG 91 (by decide +kernel) (by decide +kernel), by decide +kernel⟩
theorem mi_R_comesGift : Cond.instanceMethod y_R_comesGift ∈ tbG := mG 1160 (by decide +kernel) (by decide +kernel)
theorem ms_R_comesGift : Cond.selects y_R_comesGift.cls y_R_comesGift y_R_comesGift ∈ tbG := mG 41 (by decide +kernel) (by decide +kernel)
theorem d_R_comesGift_0 : decode b_R_comesGift 0 = .ok (.aload_n 0, 1) := by decide +kernel
theorem d_R_comesGift_1 : decode b_R_comesGift 1 = .ok (.iload_n 3, 1) := by decide +kernel
theorem d_R_comesGift_2 : decode b_R_comesGift 2 = .ok (.invokevirtual 76, 3) := by decide +kernel
theorem d_R_comesGift_5 : decode b_R_comesGift 5 = .ok (.ifCond .eq 15, 3) := by decide +kernel
theorem d_R_comesGift_8 : decode b_R_comesGift 8 = .ok (.iload_n 2, 1) := by decide +kernel
theorem d_R_comesGift_9 : decode b_R_comesGift 9 = .ok (.ifCond .eq 11, 3) := by decide +kernel
theorem d_R_comesGift_12 : decode b_R_comesGift 12 = .ok (.aload_n 0, 1) := by decide +kernel
theorem d_R_comesGift_13 : decode b_R_comesGift 13 = .ok (.getfield 67, 3) := by decide +kernel
theorem d_R_comesGift_16 : decode b_R_comesGift 16 = .ok (.iconst 4, 1) := by decide +kernel
theorem d_R_comesGift_17 : decode b_R_comesGift 17 = .ok (.if_icmp .ne 5, 3) := by decide +kernel
theorem d_R_comesGift_20 : decode b_R_comesGift 20 = .ok (.iconst 0, 1) := by decide +kernel
theorem d_R_comesGift_21 : decode b_R_comesGift 21 = .ok (.ireturn, 1) := by decide +kernel
theorem d_R_comesGift_22 : decode b_R_comesGift 22 = .ok (.aload_n 0, 1) := by decide +kernel
theorem d_R_comesGift_23 : decode b_R_comesGift 23 = .ok (.iload_n 1, 1) := by decide +kernel
theorem d_R_comesGift_24 : decode b_R_comesGift 24 = .ok (.iload_n 2, 1) := by decide +kernel
theorem d_R_comesGift_25 : decode b_R_comesGift 25 = .ok (.iload_n 3, 1) := by decide +kernel
theorem d_R_comesGift_26 : decode b_R_comesGift 26 = .ok (.invokevirtual 116, 3) := by decide +kernel
theorem d_R_comesGift_29 : decode b_R_comesGift 29 = .ok (.iconst 1, 1) := by decide +kernel
theorem d_R_comesGift_30 : decode b_R_comesGift 30 = .ok (.ireturn, 1) := by decide +kernel
abbrev b_R_areTwo : ByteArray := prog_11_method_10_code
def y_R_areTwo : MethodName := ⟨"PassedOnAndBetterModel", "areTwo", "(II)Z"⟩
theorem m_R_areTwo : MV y_R_areTwo b_R_areTwo 3 (some .boolean) 2 := ⟨mG 1181 (by decide +kernel) (by decide +kernel), mG 91 (by decide +kernel) (by decide +kernel), by decide +kernel⟩
theorem mi_R_areTwo : Cond.instanceMethod y_R_areTwo ∈ tbG := mG 1180 (by decide +kernel) (by decide +kernel)
theorem ms_R_areTwo : Cond.selects y_R_areTwo.cls y_R_areTwo y_R_areTwo ∈ tbG := mG 46 (by decide +kernel) (by decide +kernel)
theorem d_R_areTwo_0 : decode b_R_areTwo 0 = .ok (.aload_n 0, 1) := by decide +kernel
theorem d_R_areTwo_1 : decode b_R_areTwo 1 = .ok (.iload_n 1, 1) := by decide +kernel
theorem d_R_areTwo_2 : decode b_R_areTwo 2 = .ok (.invokevirtual 76, 3) := by decide +kernel
theorem d_R_areTwo_5 : decode b_R_areTwo 5 = .ok (.ifCond .eq 20, 3) := by decide +kernel
theorem d_R_areTwo_8 : decode b_R_areTwo 8 = .ok (.aload_n 0, 1) := by decide +kernel
theorem d_R_areTwo_9 : decode b_R_areTwo 9 = .ok (.iload_n 2, 1) := by decide +kernel
theorem d_R_areTwo_10 : decode b_R_areTwo 10 = .ok (.invokevirtual 76, 3) := by decide +kernel
theorem d_R_areTwo_13 : decode b_R_areTwo 13 = .ok (.ifCond .eq 12, 3) := by decide +kernel
theorem d_R_areTwo_16 : decode b_R_areTwo 16 = .ok (.iload_n 1, 1) := by decide +kernel
theorem d_R_areTwo_17 : decode b_R_areTwo 17 = .ok (.iload_n 2, 1) := by decide +kernel
theorem d_R_areTwo_18 : decode b_R_areTwo 18 = .ok (.if_icmp .eq 7, 3) := by decide +kernel
theorem d_R_areTwo_21 : decode b_R_areTwo 21 = .ok (.iconst 1, 1) := by decide +kernel
theorem d_R_areTwo_22 : decode b_R_areTwo 22 = .ok (.goto 4, 3) := by decide +kernel
theorem d_R_areTwo_25 : decode b_R_areTwo 25 = .ok (.iconst 0, 1) := by decide +kernel
theorem d_R_areTwo_26 : decode b_R_areTwo 26 = .ok (.ireturn, 1) := by decide +kernel
abbrev b_R_turnsNext : ByteArray := prog_11_method_37_code
def y_R_turnsNext : MethodName := ⟨"PassedOnAndBetterModel", "turnsNext", "(II)V"⟩
theorem m_R_turnsNext : MV y_R_turnsNext b_R_turnsNext 3 none 2 := ⟨mG 1185 (by decide +kernel) (by decide +kernel), mG 91 (by decide +kernel) (by decide +kernel), by decide +kernel⟩
theorem mi_R_turnsNext : Cond.instanceMethod y_R_turnsNext ∈ tbG := mG 1184 (by decide +kernel) (by decide +kernel)
theorem ms_R_turnsNext : Cond.selects y_R_turnsNext.cls y_R_turnsNext y_R_turnsNext ∈ tbG := mG 47 (by decide +kernel) (by decide +kernel)
theorem d_R_turnsNext_0 : decode b_R_turnsNext 0 = .ok (.aload_n 0, 1) := by decide +kernel
theorem d_R_turnsNext_1 : decode b_R_turnsNext 1 = .ok (.getfield 22, 3) := by decide +kernel
theorem d_R_turnsNext_4 : decode b_R_turnsNext 4 = .ok (.iload_n 1, 1) := by decide +kernel
theorem d_R_turnsNext_5 : decode b_R_turnsNext 5 = .ok (.aload_n 0, 1) := by decide +kernel
theorem d_R_turnsNext_6 : decode b_R_turnsNext 6 = .ok (.getfield 22, 3) := by decide +kernel
theorem d_R_turnsNext_9 : decode b_R_turnsNext 9 = .ok (.iload_n 1, 1) := by decide +kernel
theorem d_R_turnsNext_10 : decode b_R_turnsNext 10 = .ok (.iaload, 1) := by decide +kernel
theorem d_R_turnsNext_11 : decode b_R_turnsNext 11 = .ok (.iload_n 2, 1) := by decide +kernel
theorem d_R_turnsNext_12 : decode b_R_turnsNext 12 = .ok (.if_icmp .ne 8, 3) := by decide +kernel
theorem d_R_turnsNext_15 : decode b_R_turnsNext 15 = .ok (.bipush (-9), 2) := by decide +kernel
theorem d_R_turnsNext_17 : decode b_R_turnsNext 17 = .ok (.goto 4, 3) := by decide +kernel
theorem d_R_turnsNext_20 : decode b_R_turnsNext 20 = .ok (.iload_n 2, 1) := by decide +kernel
theorem d_R_turnsNext_21 : decode b_R_turnsNext 21 = .ok (.iastore, 1) := by decide +kernel
theorem d_R_turnsNext_22 : decode b_R_turnsNext 22 = .ok (.return_, 1) := by decide +kernel
abbrev b_R_comesNext : ByteArray := prog_11_method_19_code
def y_R_comesNext : MethodName := ⟨"PassedOnAndBetterModel", "comesNext", "(II)Z"⟩
theorem m_R_comesNext : MV y_R_comesNext b_R_comesNext 3 (some .boolean) 2 := ⟨mG 1177 (by decide +kernel) (by decide +kernel), mG 91 (by decide +kernel) (by decide +kernel), by decide +kernel⟩
theorem mi_R_comesNext : Cond.instanceMethod y_R_comesNext ∈ tbG := mG 1176 (by decide +kernel) (by decide +kernel)
theorem ms_R_comesNext : Cond.selects y_R_comesNext.cls y_R_comesNext y_R_comesNext ∈ tbG := mG 45 (by decide +kernel) (by decide +kernel)
theorem d_R_comesNext_0 : decode b_R_comesNext 0 = .ok (.aload_n 0, 1) := by decide +kernel
theorem d_R_comesNext_1 : decode b_R_comesNext 1 = .ok (.iload_n 1, 1) := by decide +kernel
theorem d_R_comesNext_2 : decode b_R_comesNext 2 = .ok (.iload_n 2, 1) := by decide +kernel
theorem d_R_comesNext_3 : decode b_R_comesNext 3 = .ok (.invokevirtual 119, 3) := by decide +kernel
theorem d_R_comesNext_6 : decode b_R_comesNext 6 = .ok (.ifCond .ne 5, 3) := by decide +kernel
theorem d_R_comesNext_9 : decode b_R_comesNext 9 = .ok (.iconst 0, 1) := by decide +kernel
theorem d_R_comesNext_10 : decode b_R_comesNext 10 = .ok (.ireturn, 1) := by decide +kernel
theorem d_R_comesNext_11 : decode b_R_comesNext 11 = .ok (.aload_n 0, 1) := by decide +kernel
theorem d_R_comesNext_12 : decode b_R_comesNext 12 = .ok (.iload_n 1, 1) := by decide +kernel
theorem d_R_comesNext_13 : decode b_R_comesNext 13 = .ok (.iload_n 2, 1) := by decide +kernel
theorem d_R_comesNext_14 : decode b_R_comesNext 14 = .ok (.invokevirtual 122, 3) := by decide +kernel
theorem d_R_comesNext_17 : decode b_R_comesNext 17 = .ok (.iconst 1, 1) := by decide +kernel
theorem d_R_comesNext_18 : decode b_R_comesNext 18 = .ok (.ireturn, 1) := by decide +kernel
abbrev b_R_isGift : ByteArray := prog_11_method_11_code
def y_R_isGift : MethodName := ⟨"PassedOnAndBetterModel", "isGift", "(I)Z"⟩
theorem m_R_isGift : MV y_R_isGift b_R_isGift 2 (some .boolean) 1 := ⟨mG 1189 (by decide +kernel) (by decide +kernel), mG 91 (by decide +kernel) (by decide +kernel), by decide +kernel⟩
theorem mi_R_isGift : Cond.instanceMethod y_R_isGift ∈ tbG := mG 1188 (by decide +kernel) (by decide +kernel)
theorem ms_R_isGift : Cond.selects y_R_isGift.cls y_R_isGift y_R_isGift ∈ tbG := mG 48 (by decide +kernel) (by decide +kernel)
theorem d_R_isGift_0 : decode b_R_isGift 0 = .ok (.iload_n 1, 1) := by decide +kernel
theorem d_R_isGift_1 : decode b_R_isGift 1 = .ok (.ifCond .lt 15, 3) := by decide +kernel
theorem d_R_isGift_4 : decode b_R_isGift 4 = .ok (.iload_n 1, 1) := by decide +kernel
theorem d_R_isGift_5 : decode b_R_isGift 5 = .ok (.aload_n 0, 1) := by decide +kernel
theorem d_R_isGift_6 : decode b_R_isGift 6 = .ok (.getfield 67, 3) := by decide +kernel
theorem d_R_isGift_9 : decode b_R_isGift 9 = .ok (.if_icmp .ge 7, 3) := by decide +kernel
theorem d_R_isGift_12 : decode b_R_isGift 12 = .ok (.iconst 1, 1) := by decide +kernel
theorem d_R_isGift_13 : decode b_R_isGift 13 = .ok (.goto 4, 3) := by decide +kernel
theorem d_R_isGift_16 : decode b_R_isGift 16 = .ok (.iconst 0, 1) := by decide +kernel
theorem d_R_isGift_17 : decode b_R_isGift 17 = .ok (.ireturn, 1) := by decide +kernel
abbrev b_R_held : ByteArray := prog_11_method_6_code
def y_R_held : MethodName := ⟨"PassedOnAndBetterModel", "held", "(III)I"⟩
theorem m_R_held : MV y_R_held b_R_held 3 (some .int) 3 := ⟨mG 1208 (by decide +kernel) (by decide +kernel), mG 91 (by decide +kernel) (by decide +kernel), by decide +kernel⟩
theorem mi_R_held : Cond.static y_R_held ∈ tbG := mG 1207 (by decide +kernel) (by decide +kernel)
theorem d_R_held_0 : decode b_R_held 0 = .ok (.iload_n 0, 1) := by decide +kernel
theorem d_R_held_1 : decode b_R_held 1 = .ok (.iload_n 1, 1) := by decide +kernel
theorem d_R_held_2 : decode b_R_held 2 = .ok (.if_icmp .ge 7, 3) := by decide +kernel
theorem d_R_held_5 : decode b_R_held 5 = .ok (.iload_n 1, 1) := by decide +kernel
theorem d_R_held_6 : decode b_R_held 6 = .ok (.goto 13, 3) := by decide +kernel
theorem d_R_held_9 : decode b_R_held 9 = .ok (.iload_n 0, 1) := by decide +kernel
theorem d_R_held_10 : decode b_R_held 10 = .ok (.iload_n 2, 1) := by decide +kernel
theorem d_R_held_11 : decode b_R_held 11 = .ok (.if_icmp .le 7, 3) := by decide +kernel
theorem d_R_held_14 : decode b_R_held 14 = .ok (.iload_n 2, 1) := by decide +kernel
theorem d_R_held_15 : decode b_R_held 15 = .ok (.goto 4, 3) := by decide +kernel
theorem d_R_held_18 : decode b_R_held 18 = .ok (.iload_n 0, 1) := by decide +kernel
theorem d_R_held_19 : decode b_R_held 19 = .ok (.ireturn, 1) := by decide +kernel
abbrev b_R_waitsOf : ByteArray := prog_11_method_38_code
def y_R_waitsOf : MethodName := ⟨"PassedOnAndBetterModel", "waitsOf", "(I)I"⟩
theorem m_R_waitsOf : MV y_R_waitsOf b_R_waitsOf 2 (some .int) 1 := ⟨mG 1212 (by decide +kernel) (by decide +kernel), mG 91 (by decide +kernel) (by decide +kernel), by decide +kernel⟩
theorem mi_R_waitsOf : Cond.instanceMethod y_R_waitsOf ∈ tbG := mG 1211 (by decide +kernel) (by decide +kernel)
theorem ms_R_waitsOf : Cond.selects y_R_waitsOf.cls y_R_waitsOf y_R_waitsOf ∈ tbG := mG 53 (by decide +kernel) (by decide +kernel)
theorem d_R_waitsOf_0 : decode b_R_waitsOf 0 = .ok (.aload_n 0, 1) := by decide +kernel
theorem d_R_waitsOf_1 : decode b_R_waitsOf 1 = .ok (.getfield 13, 3) := by decide +kernel
theorem d_R_waitsOf_4 : decode b_R_waitsOf 4 = .ok (.iload_n 1, 1) := by decide +kernel
theorem d_R_waitsOf_5 : decode b_R_waitsOf 5 = .ok (.iaload, 1) := by decide +kernel
theorem d_R_waitsOf_6 : decode b_R_waitsOf 6 = .ok (.tableswitch 47 1 5 #[34, 37, 40, 42, 45], 34) := by decide +kernel
theorem d_R_waitsOf_40 : decode b_R_waitsOf 40 = .ok (.bipush 12, 2) := by decide +kernel
theorem d_R_waitsOf_42 : decode b_R_waitsOf 42 = .ok (.ireturn, 1) := by decide +kernel
theorem d_R_waitsOf_43 : decode b_R_waitsOf 43 = .ok (.bipush 6, 2) := by decide +kernel
theorem d_R_waitsOf_45 : decode b_R_waitsOf 45 = .ok (.ireturn, 1) := by decide +kernel
theorem d_R_waitsOf_46 : decode b_R_waitsOf 46 = .ok (.iconst 3, 1) := by decide +kernel
theorem d_R_waitsOf_47 : decode b_R_waitsOf 47 = .ok (.ireturn, 1) := by decide +kernel
theorem d_R_waitsOf_48 : decode b_R_waitsOf 48 = .ok (.bipush 11, 2) := by decide +kernel
theorem d_R_waitsOf_50 : decode b_R_waitsOf 50 = .ok (.ireturn, 1) := by decide +kernel
theorem d_R_waitsOf_51 : decode b_R_waitsOf 51 = .ok (.iconst 1, 1) := by decide +kernel
theorem d_R_waitsOf_52 : decode b_R_waitsOf 52 = .ok (.ireturn, 1) := by decide +kernel
theorem d_R_waitsOf_53 : decode b_R_waitsOf 53 = .ok (.bipush 12, 2) := by decide +kernel
theorem d_R_waitsOf_55 : decode b_R_waitsOf 55 = .ok (.aload_n 0, 1) := by decide +kernel
theorem d_R_waitsOf_56 : decode b_R_waitsOf 56 = .ok (.getfield 16, 3) := by decide +kernel
theorem d_R_waitsOf_59 : decode b_R_waitsOf 59 = .ok (.iload_n 1, 1) := by decide +kernel
theorem d_R_waitsOf_60 : decode b_R_waitsOf 60 = .ok (.iaload, 1) := by decide +kernel
theorem d_R_waitsOf_61 : decode b_R_waitsOf 61 = .ok (.isub, 1) := by decide +kernel
theorem d_R_waitsOf_62 : decode b_R_waitsOf 62 = .ok (.ireturn, 1) := by decide +kernel
abbrev b_R_addsOf : ByteArray := prog_11_method_39_code
def y_R_addsOf : MethodName := ⟨"PassedOnAndBetterModel", "addsOf", "(I)I"⟩
theorem m_R_addsOf : MV y_R_addsOf b_R_addsOf 2 (some .int) 1 := ⟨mG 1220 (by decide +kernel) (by decide +kernel), mG 91 (by decide +kernel) (by decide +kernel), by decide +kernel⟩
theorem mi_R_addsOf : Cond.instanceMethod y_R_addsOf ∈ tbG := mG 1219 (by decide +kernel) (by decide +kernel)
theorem ms_R_addsOf : Cond.selects y_R_addsOf.cls y_R_addsOf y_R_addsOf ∈ tbG := mG 55 (by decide +kernel) (by decide +kernel)
theorem d_R_addsOf_0 : decode b_R_addsOf 0 = .ok (.aload_n 0, 1) := by decide +kernel
theorem d_R_addsOf_1 : decode b_R_addsOf 1 = .ok (.getfield 13, 3) := by decide +kernel
theorem d_R_addsOf_4 : decode b_R_addsOf 4 = .ok (.iload_n 1, 1) := by decide +kernel
theorem d_R_addsOf_5 : decode b_R_addsOf 5 = .ok (.iaload, 1) := by decide +kernel
theorem d_R_addsOf_6 : decode b_R_addsOf 6 = .ok (.tableswitch 60 1 5 #[34, 36, 38, 40, 49], 34) := by decide +kernel
theorem d_R_addsOf_40 : decode b_R_addsOf 40 = .ok (.iconst 1, 1) := by decide +kernel
theorem d_R_addsOf_41 : decode b_R_addsOf 41 = .ok (.ireturn, 1) := by decide +kernel
theorem d_R_addsOf_42 : decode b_R_addsOf 42 = .ok (.iconst 5, 1) := by decide +kernel
theorem d_R_addsOf_43 : decode b_R_addsOf 43 = .ok (.ireturn, 1) := by decide +kernel
theorem d_R_addsOf_44 : decode b_R_addsOf 44 = .ok (.iconst 2, 1) := by decide +kernel
theorem d_R_addsOf_45 : decode b_R_addsOf 45 = .ok (.ireturn, 1) := by decide +kernel
theorem d_R_addsOf_46 : decode b_R_addsOf 46 = .ok (.iconst 1, 1) := by decide +kernel
theorem d_R_addsOf_47 : decode b_R_addsOf 47 = .ok (.aload_n 0, 1) := by decide +kernel
theorem d_R_addsOf_48 : decode b_R_addsOf 48 = .ok (.getfield 16, 3) := by decide +kernel
theorem d_R_addsOf_51 : decode b_R_addsOf 51 = .ok (.iload_n 1, 1) := by decide +kernel
theorem d_R_addsOf_52 : decode b_R_addsOf 52 = .ok (.iaload, 1) := by decide +kernel
theorem d_R_addsOf_53 : decode b_R_addsOf 53 = .ok (.iadd, 1) := by decide +kernel
theorem d_R_addsOf_54 : decode b_R_addsOf 54 = .ok (.ireturn, 1) := by decide +kernel
theorem d_R_addsOf_55 : decode b_R_addsOf 55 = .ok (.aload_n 0, 1) := by decide +kernel
theorem d_R_addsOf_56 : decode b_R_addsOf 56 = .ok (.getfield 16, 3) := by decide +kernel
theorem d_R_addsOf_59 : decode b_R_addsOf 59 = .ok (.iload_n 1, 1) := by decide +kernel
theorem d_R_addsOf_60 : decode b_R_addsOf 60 = .ok (.iaload, 1) := by decide +kernel
theorem d_R_addsOf_61 : decode b_R_addsOf 61 = .ok (.iconst 1, 1) := by decide +kernel
theorem d_R_addsOf_62 : decode b_R_addsOf 62 = .ok (.iadd, 1) := by decide +kernel
theorem d_R_addsOf_63 : decode b_R_addsOf 63 = .ok (.iconst 2, 1) := by decide +kernel
theorem d_R_addsOf_64 : decode b_R_addsOf 64 = .ok (.idiv, 1) := by decide +kernel
theorem d_R_addsOf_65 : decode b_R_addsOf 65 = .ok (.ireturn, 1) := by decide +kernel
theorem d_R_addsOf_66 : decode b_R_addsOf 66 = .ok (.aload_n 0, 1) := by decide +kernel
theorem d_R_addsOf_67 : decode b_R_addsOf 67 = .ok (.getfield 16, 3) := by decide +kernel
theorem d_R_addsOf_70 : decode b_R_addsOf 70 = .ok (.iload_n 1, 1) := by decide +kernel
theorem d_R_addsOf_71 : decode b_R_addsOf 71 = .ok (.iaload, 1) := by decide +kernel
theorem d_R_addsOf_72 : decode b_R_addsOf 72 = .ok (.iconst 1, 1) := by decide +kernel
theorem d_R_addsOf_73 : decode b_R_addsOf 73 = .ok (.iadd, 1) := by decide +kernel
theorem d_R_addsOf_74 : decode b_R_addsOf 74 = .ok (.ireturn, 1) := by decide +kernel
abbrev b_R_has : ByteArray := prog_11_method_7_code
def y_R_has : MethodName := ⟨"PassedOnAndBetterModel", "has", "(II)Z"⟩
theorem m_R_has : MV y_R_has b_R_has 2 (some .boolean) 2 := ⟨mG 1223 (by decide +kernel) (by decide +kernel), mG 91 (by decide +kernel) (by decide +kernel), by decide +kernel⟩
theorem mi_R_has : Cond.static y_R_has ∈ tbG := mG 1222 (by decide +kernel) (by decide +kernel)
theorem d_R_has_0 : decode b_R_has 0 = .ok (.iload_n 0, 1) := by decide +kernel
theorem d_R_has_1 : decode b_R_has 1 = .ok (.iload_n 1, 1) := by decide +kernel
theorem d_R_has_2 : decode b_R_has 2 = .ok (.ishr, 1) := by decide +kernel
theorem d_R_has_3 : decode b_R_has 3 = .ok (.iconst 1, 1) := by decide +kernel
theorem d_R_has_4 : decode b_R_has 4 = .ok (.iand, 1) := by decide +kernel
theorem d_R_has_5 : decode b_R_has 5 = .ok (.iconst 1, 1) := by decide +kernel
theorem d_R_has_6 : decode b_R_has 6 = .ok (.if_icmp .ne 7, 3) := by decide +kernel
theorem d_R_has_9 : decode b_R_has 9 = .ok (.iconst 1, 1) := by decide +kernel
theorem d_R_has_10 : decode b_R_has 10 = .ok (.goto 4, 3) := by decide +kernel
theorem d_R_has_13 : decode b_R_has 13 = .ok (.iconst 0, 1) := by decide +kernel
theorem d_R_has_14 : decode b_R_has 14 = .ok (.ireturn, 1) := by decide +kernel
abbrev b_R_swellsOf : ByteArray := prog_11_method_40_code
def y_R_swellsOf : MethodName := ⟨"PassedOnAndBetterModel", "swellsOf", "(I)I"⟩
theorem m_R_swellsOf : MV y_R_swellsOf b_R_swellsOf 3 (some .int) 1 := ⟨mG 1231 (by decide +kernel) (by decide +kernel), mG 91 (by decide +kernel) (by decide +kernel), by decide +kernel⟩
theorem mi_R_swellsOf : Cond.instanceMethod y_R_swellsOf ∈ tbG := mG 1230 (by decide +kernel) (by decide +kernel)
theorem ms_R_swellsOf : Cond.selects y_R_swellsOf.cls y_R_swellsOf y_R_swellsOf ∈ tbG := mG 57 (by decide +kernel) (by decide +kernel)
theorem d_R_swellsOf_0 : decode b_R_swellsOf 0 = .ok (.aload_n 0, 1) := by decide +kernel
theorem d_R_swellsOf_1 : decode b_R_swellsOf 1 = .ok (.getfield 16, 3) := by decide +kernel
theorem d_R_swellsOf_4 : decode b_R_swellsOf 4 = .ok (.iload_n 1, 1) := by decide +kernel
theorem d_R_swellsOf_5 : decode b_R_swellsOf 5 = .ok (.iaload, 1) := by decide +kernel
theorem d_R_swellsOf_6 : decode b_R_swellsOf 6 = .ok (.iconst 2, 1) := by decide +kernel
theorem d_R_swellsOf_7 : decode b_R_swellsOf 7 = .ok (.idiv, 1) := by decide +kernel
theorem d_R_swellsOf_8 : decode b_R_swellsOf 8 = .ok (.istore_n 2, 1) := by decide +kernel
theorem d_R_swellsOf_9 : decode b_R_swellsOf 9 = .ok (.aload_n 0, 1) := by decide +kernel
theorem d_R_swellsOf_10 : decode b_R_swellsOf 10 = .ok (.getfield 13, 3) := by decide +kernel
theorem d_R_swellsOf_13 : decode b_R_swellsOf 13 = .ok (.iload_n 1, 1) := by decide +kernel
theorem d_R_swellsOf_14 : decode b_R_swellsOf 14 = .ok (.iaload, 1) := by decide +kernel
theorem d_R_swellsOf_15 : decode b_R_swellsOf 15 = .ok (.tableswitch 58 1 5 #[33, 35, 42, 45, 47], 33) := by decide +kernel
theorem d_R_swellsOf_48 : decode b_R_swellsOf 48 = .ok (.iconst 0, 1) := by decide +kernel
theorem d_R_swellsOf_49 : decode b_R_swellsOf 49 = .ok (.ireturn, 1) := by decide +kernel
theorem d_R_swellsOf_50 : decode b_R_swellsOf 50 = .ok (.aload_n 0, 1) := by decide +kernel
theorem d_R_swellsOf_51 : decode b_R_swellsOf 51 = .ok (.getfield 16, 3) := by decide +kernel
theorem d_R_swellsOf_54 : decode b_R_swellsOf 54 = .ok (.iload_n 1, 1) := by decide +kernel
theorem d_R_swellsOf_55 : decode b_R_swellsOf 55 = .ok (.iaload, 1) := by decide +kernel
theorem d_R_swellsOf_56 : decode b_R_swellsOf 56 = .ok (.ireturn, 1) := by decide +kernel
theorem d_R_swellsOf_57 : decode b_R_swellsOf 57 = .ok (.bipush (-3), 2) := by decide +kernel
theorem d_R_swellsOf_59 : decode b_R_swellsOf 59 = .ok (.ireturn, 1) := by decide +kernel
theorem d_R_swellsOf_60 : decode b_R_swellsOf 60 = .ok (.iconst 4, 1) := by decide +kernel
theorem d_R_swellsOf_61 : decode b_R_swellsOf 61 = .ok (.ireturn, 1) := by decide +kernel
theorem d_R_swellsOf_62 : decode b_R_swellsOf 62 = .ok (.iload_n 2, 1) := by decide +kernel
theorem d_R_swellsOf_63 : decode b_R_swellsOf 63 = .ok (.iconst 2, 1) := by decide +kernel
theorem d_R_swellsOf_64 : decode b_R_swellsOf 64 = .ok (.if_icmp .le 7, 3) := by decide +kernel
theorem d_R_swellsOf_67 : decode b_R_swellsOf 67 = .ok (.iconst 2, 1) := by decide +kernel
theorem d_R_swellsOf_68 : decode b_R_swellsOf 68 = .ok (.goto 4, 3) := by decide +kernel
theorem d_R_swellsOf_71 : decode b_R_swellsOf 71 = .ok (.iload_n 2, 1) := by decide +kernel
theorem d_R_swellsOf_72 : decode b_R_swellsOf 72 = .ok (.ireturn, 1) := by decide +kernel
theorem d_R_swellsOf_73 : decode b_R_swellsOf 73 = .ok (.iload_n 2, 1) := by decide +kernel
theorem d_R_swellsOf_74 : decode b_R_swellsOf 74 = .ok (.ireturn, 1) := by decide +kernel
abbrev b_R_sizeBehind : ByteArray := prog_11_method_42_code
def y_R_sizeBehind : MethodName := ⟨"PassedOnAndBetterModel", "sizeBehind", "(I)I"⟩
theorem m_R_sizeBehind : MV y_R_sizeBehind b_R_sizeBehind 2 (some .int) 1 := ⟨mG 1227 (by decide +kernel) (by decide +kernel), mG 91 (by decide +kernel) (by decide +kernel), by decide +kernel⟩
theorem mi_R_sizeBehind : Cond.instanceMethod y_R_sizeBehind ∈ tbG := mG 1226 (by decide +kernel) (by decide +kernel)
theorem ms_R_sizeBehind : Cond.selects y_R_sizeBehind.cls y_R_sizeBehind y_R_sizeBehind ∈ tbG := mG 56 (by decide +kernel) (by decide +kernel)
theorem d_R_sizeBehind_0 : decode b_R_sizeBehind 0 = .ok (.aload_n 0, 1) := by decide +kernel
theorem d_R_sizeBehind_1 : decode b_R_sizeBehind 1 = .ok (.getfield 37, 3) := by decide +kernel
theorem d_R_sizeBehind_4 : decode b_R_sizeBehind 4 = .ok (.iload_n 1, 1) := by decide +kernel
theorem d_R_sizeBehind_5 : decode b_R_sizeBehind 5 = .ok (.iaload, 1) := by decide +kernel
theorem d_R_sizeBehind_6 : decode b_R_sizeBehind 6 = .ok (.iconst 1, 1) := by decide +kernel
theorem d_R_sizeBehind_7 : decode b_R_sizeBehind 7 = .ok (.if_icmp .ne 12, 3) := by decide +kernel
theorem d_R_sizeBehind_10 : decode b_R_sizeBehind 10 = .ok (.aload_n 0, 1) := by decide +kernel
theorem d_R_sizeBehind_11 : decode b_R_sizeBehind 11 = .ok (.getfield 28, 3) := by decide +kernel
theorem d_R_sizeBehind_14 : decode b_R_sizeBehind 14 = .ok (.iload_n 1, 1) := by decide +kernel
theorem d_R_sizeBehind_15 : decode b_R_sizeBehind 15 = .ok (.iaload, 1) := by decide +kernel
theorem d_R_sizeBehind_16 : decode b_R_sizeBehind 16 = .ok (.goto 27, 3) := by decide +kernel
theorem d_R_sizeBehind_19 : decode b_R_sizeBehind 19 = .ok (.aload_n 0, 1) := by decide +kernel
theorem d_R_sizeBehind_20 : decode b_R_sizeBehind 20 = .ok (.getfield 28, 3) := by decide +kernel
theorem d_R_sizeBehind_23 : decode b_R_sizeBehind 23 = .ok (.iload_n 1, 1) := by decide +kernel
theorem d_R_sizeBehind_24 : decode b_R_sizeBehind 24 = .ok (.iaload, 1) := by decide +kernel
theorem d_R_sizeBehind_25 : decode b_R_sizeBehind 25 = .ok (.aload_n 0, 1) := by decide +kernel
theorem d_R_sizeBehind_26 : decode b_R_sizeBehind 26 = .ok (.aload_n 0, 1) := by decide +kernel
theorem d_R_sizeBehind_27 : decode b_R_sizeBehind 27 = .ok (.getfield 31, 3) := by decide +kernel
theorem d_R_sizeBehind_30 : decode b_R_sizeBehind 30 = .ok (.iload_n 1, 1) := by decide +kernel
theorem d_R_sizeBehind_31 : decode b_R_sizeBehind 31 = .ok (.iaload, 1) := by decide +kernel
theorem d_R_sizeBehind_32 : decode b_R_sizeBehind 32 = .ok (.invokevirtual 182, 3) := by decide +kernel
theorem d_R_sizeBehind_35 : decode b_R_sizeBehind 35 = .ok (.iadd, 1) := by decide +kernel
theorem d_R_sizeBehind_36 : decode b_R_sizeBehind 36 = .ok (.iconst 1, 1) := by decide +kernel
theorem d_R_sizeBehind_37 : decode b_R_sizeBehind 37 = .ok (.sipush 999, 3) := by decide +kernel
theorem d_R_sizeBehind_40 : decode b_R_sizeBehind 40 = .ok (.invokestatic 185, 3) := by decide +kernel
theorem d_R_sizeBehind_43 : decode b_R_sizeBehind 43 = .ok (.ireturn, 1) := by decide +kernel
abbrev b_R_betters : ByteArray := prog_11_method_43_code
def y_R_betters : MethodName := ⟨"PassedOnAndBetterModel", "betters", "(I)V"⟩
theorem m_R_betters : MV y_R_betters b_R_betters 4 none 1 := ⟨mG 1216 (by decide +kernel) (by decide +kernel), mG 91 (by decide +kernel) (by decide +kernel), by decide +kernel⟩
theorem mi_R_betters : Cond.instanceMethod y_R_betters ∈ tbG := mG 1215 (by decide +kernel) (by decide +kernel)
theorem ms_R_betters : Cond.selects y_R_betters.cls y_R_betters y_R_betters ∈ tbG := mG 54 (by decide +kernel) (by decide +kernel)
theorem d_R_betters_0 : decode b_R_betters 0 = .ok (.aload_n 0, 1) := by decide +kernel
theorem d_R_betters_1 : decode b_R_betters 1 = .ok (.getfield 37, 3) := by decide +kernel
theorem d_R_betters_4 : decode b_R_betters 4 = .ok (.iload_n 1, 1) := by decide +kernel
theorem d_R_betters_5 : decode b_R_betters 5 = .ok (.iaload, 1) := by decide +kernel
theorem d_R_betters_6 : decode b_R_betters 6 = .ok (.iconst 1, 1) := by decide +kernel
theorem d_R_betters_7 : decode b_R_betters 7 = .ok (.if_icmp .ne 4, 3) := by decide +kernel
theorem d_R_betters_10 : decode b_R_betters 10 = .ok (.return_, 1) := by decide +kernel
theorem d_R_betters_11 : decode b_R_betters 11 = .ok (.aload_n 0, 1) := by decide +kernel
theorem d_R_betters_12 : decode b_R_betters 12 = .ok (.getfield 31, 3) := by decide +kernel
theorem d_R_betters_15 : decode b_R_betters 15 = .ok (.iload_n 1, 1) := by decide +kernel
theorem d_R_betters_16 : decode b_R_betters 16 = .ok (.iaload, 1) := by decide +kernel
theorem d_R_betters_17 : decode b_R_betters 17 = .ok (.istore_n 2, 1) := by decide +kernel
theorem d_R_betters_18 : decode b_R_betters 18 = .ok (.aload_n 0, 1) := by decide +kernel
theorem d_R_betters_19 : decode b_R_betters 19 = .ok (.getfield 25, 3) := by decide +kernel
theorem d_R_betters_22 : decode b_R_betters 22 = .ok (.iload_n 1, 1) := by decide +kernel
theorem d_R_betters_23 : decode b_R_betters 23 = .ok (.iaload, 1) := by decide +kernel
theorem d_R_betters_24 : decode b_R_betters 24 = .ok (.aload_n 0, 1) := by decide +kernel
theorem d_R_betters_25 : decode b_R_betters 25 = .ok (.iload_n 2, 1) := by decide +kernel
theorem d_R_betters_26 : decode b_R_betters 26 = .ok (.invokevirtual 188, 3) := by decide +kernel
theorem d_R_betters_29 : decode b_R_betters 29 = .ok (.aload_n 0, 1) := by decide +kernel
theorem d_R_betters_30 : decode b_R_betters 30 = .ok (.getfield 191, 3) := by decide +kernel
theorem d_R_betters_33 : decode b_R_betters 33 = .ok (.iload_n 2, 1) := by decide +kernel
theorem d_R_betters_34 : decode b_R_betters 34 = .ok (.invokestatic 194, 3) := by decide +kernel
theorem d_R_betters_37 : decode b_R_betters 37 = .ok (.ifCond .eq 7, 3) := by decide +kernel
theorem d_R_betters_40 : decode b_R_betters 40 = .ok (.iconst 2, 1) := by decide +kernel
theorem d_R_betters_41 : decode b_R_betters 41 = .ok (.goto 4, 3) := by decide +kernel
theorem d_R_betters_44 : decode b_R_betters 44 = .ok (.iconst 1, 1) := by decide +kernel
theorem d_R_betters_45 : decode b_R_betters 45 = .ok (.imul, 1) := by decide +kernel
theorem d_R_betters_46 : decode b_R_betters 46 = .ok (.iadd, 1) := by decide +kernel
theorem d_R_betters_47 : decode b_R_betters 47 = .ok (.iconst 0, 1) := by decide +kernel
theorem d_R_betters_48 : decode b_R_betters 48 = .ok (.sipush 999, 3) := by decide +kernel
theorem d_R_betters_51 : decode b_R_betters 51 = .ok (.invokestatic 185, 3) := by decide +kernel
theorem d_R_betters_54 : decode b_R_betters 54 = .ok (.istore_n 3, 1) := by decide +kernel
theorem d_R_betters_55 : decode b_R_betters 55 = .ok (.aload_n 0, 1) := by decide +kernel
theorem d_R_betters_56 : decode b_R_betters 56 = .ok (.getfield 43, 3) := by decide +kernel
theorem d_R_betters_59 : decode b_R_betters 59 = .ok (.iload_n 2, 1) := by decide +kernel
theorem d_R_betters_60 : decode b_R_betters 60 = .ok (.dup2, 1) := by decide +kernel
theorem d_R_betters_61 : decode b_R_betters 61 = .ok (.iaload, 1) := by decide +kernel
theorem d_R_betters_62 : decode b_R_betters 62 = .ok (.iload_n 3, 1) := by decide +kernel
theorem d_R_betters_63 : decode b_R_betters 63 = .ok (.aload_n 0, 1) := by decide +kernel
theorem d_R_betters_64 : decode b_R_betters 64 = .ok (.getfield 25, 3) := by decide +kernel
theorem d_R_betters_67 : decode b_R_betters 67 = .ok (.iload_n 1, 1) := by decide +kernel
theorem d_R_betters_68 : decode b_R_betters 68 = .ok (.iaload, 1) := by decide +kernel
theorem d_R_betters_69 : decode b_R_betters 69 = .ok (.isub, 1) := by decide +kernel
theorem d_R_betters_70 : decode b_R_betters 70 = .ok (.iadd, 1) := by decide +kernel
theorem d_R_betters_71 : decode b_R_betters 71 = .ok (.iastore, 1) := by decide +kernel
theorem d_R_betters_72 : decode b_R_betters 72 = .ok (.aload_n 0, 1) := by decide +kernel
theorem d_R_betters_73 : decode b_R_betters 73 = .ok (.getfield 28, 3) := by decide +kernel
theorem d_R_betters_76 : decode b_R_betters 76 = .ok (.iload_n 1, 1) := by decide +kernel
theorem d_R_betters_77 : decode b_R_betters 77 = .ok (.aload_n 0, 1) := by decide +kernel
theorem d_R_betters_78 : decode b_R_betters 78 = .ok (.iload_n 1, 1) := by decide +kernel
theorem d_R_betters_79 : decode b_R_betters 79 = .ok (.invokevirtual 197, 3) := by decide +kernel
theorem d_R_betters_82 : decode b_R_betters 82 = .ok (.iastore, 1) := by decide +kernel
theorem d_R_betters_83 : decode b_R_betters 83 = .ok (.aload_n 0, 1) := by decide +kernel
theorem d_R_betters_84 : decode b_R_betters 84 = .ok (.getfield 25, 3) := by decide +kernel
theorem d_R_betters_87 : decode b_R_betters 87 = .ok (.iload_n 1, 1) := by decide +kernel
theorem d_R_betters_88 : decode b_R_betters 88 = .ok (.iload_n 3, 1) := by decide +kernel
theorem d_R_betters_89 : decode b_R_betters 89 = .ok (.iastore, 1) := by decide +kernel
theorem d_R_betters_90 : decode b_R_betters 90 = .ok (.aload_n 0, 1) := by decide +kernel
theorem d_R_betters_91 : decode b_R_betters 91 = .ok (.getfield 37, 3) := by decide +kernel
theorem d_R_betters_94 : decode b_R_betters 94 = .ok (.iload_n 1, 1) := by decide +kernel
theorem d_R_betters_95 : decode b_R_betters 95 = .ok (.iconst 1, 1) := by decide +kernel
theorem d_R_betters_96 : decode b_R_betters 96 = .ok (.iastore, 1) := by decide +kernel
theorem d_R_betters_97 : decode b_R_betters 97 = .ok (.return_, 1) := by decide +kernel
abbrev b_R_goesOn : ByteArray := prog_11_method_44_code
def y_R_goesOn : MethodName := ⟨"PassedOnAndBetterModel", "goesOn", "(IZ)V"⟩
theorem m_R_goesOn : MV y_R_goesOn b_R_goesOn 4 none 2 := ⟨mG 1205 (by decide +kernel) (by decide +kernel), mG 91 (by decide +kernel) (by decide +kernel), by decide +kernel⟩
theorem mi_R_goesOn : Cond.instanceMethod y_R_goesOn ∈ tbG := mG 1204 (by decide +kernel) (by decide +kernel)
theorem ms_R_goesOn : Cond.selects y_R_goesOn.cls y_R_goesOn y_R_goesOn ∈ tbG := mG 52 (by decide +kernel) (by decide +kernel)
theorem d_R_goesOn_0 : decode b_R_goesOn 0 = .ok (.aload_n 0, 1) := by decide +kernel
theorem d_R_goesOn_1 : decode b_R_goesOn 1 = .ok (.getfield 34, 3) := by decide +kernel
theorem d_R_goesOn_4 : decode b_R_goesOn 4 = .ok (.iload_n 1, 1) := by decide +kernel
theorem d_R_goesOn_5 : decode b_R_goesOn 5 = .ok (.aload_n 0, 1) := by decide +kernel
theorem d_R_goesOn_6 : decode b_R_goesOn 6 = .ok (.getfield 34, 3) := by decide +kernel
theorem d_R_goesOn_9 : decode b_R_goesOn 9 = .ok (.iload_n 1, 1) := by decide +kernel
theorem d_R_goesOn_10 : decode b_R_goesOn 10 = .ok (.iaload, 1) := by decide +kernel
theorem d_R_goesOn_11 : decode b_R_goesOn 11 = .ok (.iconst 1, 1) := by decide +kernel
theorem d_R_goesOn_12 : decode b_R_goesOn 12 = .ok (.iadd, 1) := by decide +kernel
theorem d_R_goesOn_13 : decode b_R_goesOn 13 = .ok (.iconst 0, 1) := by decide +kernel
theorem d_R_goesOn_14 : decode b_R_goesOn 14 = .ok (.bipush 99, 2) := by decide +kernel
theorem d_R_goesOn_16 : decode b_R_goesOn 16 = .ok (.invokestatic 185, 3) := by decide +kernel
theorem d_R_goesOn_19 : decode b_R_goesOn 19 = .ok (.iastore, 1) := by decide +kernel
theorem d_R_goesOn_20 : decode b_R_goesOn 20 = .ok (.iload_n 2, 1) := by decide +kernel
theorem d_R_goesOn_21 : decode b_R_goesOn 21 = .ok (.ifCond .ne 22, 3) := by decide +kernel
theorem d_R_goesOn_24 : decode b_R_goesOn 24 = .ok (.aload_n 0, 1) := by decide +kernel
theorem d_R_goesOn_25 : decode b_R_goesOn 25 = .ok (.getfield 34, 3) := by decide +kernel
theorem d_R_goesOn_28 : decode b_R_goesOn 28 = .ok (.iload_n 1, 1) := by decide +kernel
theorem d_R_goesOn_29 : decode b_R_goesOn 29 = .ok (.iaload, 1) := by decide +kernel
theorem d_R_goesOn_30 : decode b_R_goesOn 30 = .ok (.aload_n 0, 1) := by decide +kernel
theorem d_R_goesOn_31 : decode b_R_goesOn 31 = .ok (.aload_n 0, 1) := by decide +kernel
theorem d_R_goesOn_32 : decode b_R_goesOn 32 = .ok (.getfield 31, 3) := by decide +kernel
theorem d_R_goesOn_35 : decode b_R_goesOn 35 = .ok (.iload_n 1, 1) := by decide +kernel
theorem d_R_goesOn_36 : decode b_R_goesOn 36 = .ok (.iaload, 1) := by decide +kernel
theorem d_R_goesOn_37 : decode b_R_goesOn 37 = .ok (.invokevirtual 200, 3) := by decide +kernel
theorem d_R_goesOn_40 : decode b_R_goesOn 40 = .ok (.if_icmp .ge 4, 3) := by decide +kernel
theorem d_R_goesOn_43 : decode b_R_goesOn 43 = .ok (.return_, 1) := by decide +kernel
theorem d_R_goesOn_44 : decode b_R_goesOn 44 = .ok (.aload_n 0, 1) := by decide +kernel
theorem d_R_goesOn_45 : decode b_R_goesOn 45 = .ok (.iload_n 1, 1) := by decide +kernel
theorem d_R_goesOn_46 : decode b_R_goesOn 46 = .ok (.invokevirtual 203, 3) := by decide +kernel
theorem d_R_goesOn_49 : decode b_R_goesOn 49 = .ok (.aload_n 0, 1) := by decide +kernel
theorem d_R_goesOn_50 : decode b_R_goesOn 50 = .ok (.getfield 22, 3) := by decide +kernel
theorem d_R_goesOn_53 : decode b_R_goesOn 53 = .ok (.aload_n 0, 1) := by decide +kernel
theorem d_R_goesOn_54 : decode b_R_goesOn 54 = .ok (.getfield 31, 3) := by decide +kernel
theorem d_R_goesOn_57 : decode b_R_goesOn 57 = .ok (.iload_n 1, 1) := by decide +kernel
theorem d_R_goesOn_58 : decode b_R_goesOn 58 = .ok (.iaload, 1) := by decide +kernel
theorem d_R_goesOn_59 : decode b_R_goesOn 59 = .ok (.iaload, 1) := by decide +kernel
theorem d_R_goesOn_60 : decode b_R_goesOn 60 = .ok (.istore_n 3, 1) := by decide +kernel
theorem d_R_goesOn_61 : decode b_R_goesOn 61 = .ok (.iload_n 3, 1) := by decide +kernel
theorem d_R_goesOn_62 : decode b_R_goesOn 62 = .ok (.ifCond .lt 18, 3) := by decide +kernel
theorem d_R_goesOn_65 : decode b_R_goesOn 65 = .ok (.aload_n 0, 1) := by decide +kernel
theorem d_R_goesOn_66 : decode b_R_goesOn 66 = .ok (.getfield 28, 3) := by decide +kernel
theorem d_R_goesOn_69 : decode b_R_goesOn 69 = .ok (.iload_n 1, 1) := by decide +kernel
theorem d_R_goesOn_70 : decode b_R_goesOn 70 = .ok (.iaload, 1) := by decide +kernel
theorem d_R_goesOn_71 : decode b_R_goesOn 71 = .ok (.aload_n 0, 1) := by decide +kernel
theorem d_R_goesOn_72 : decode b_R_goesOn 72 = .ok (.getfield 19, 3) := by decide +kernel
theorem d_R_goesOn_75 : decode b_R_goesOn 75 = .ok (.iload_n 3, 1) := by decide +kernel
theorem d_R_goesOn_76 : decode b_R_goesOn 76 = .ok (.iaload, 1) := by decide +kernel
theorem d_R_goesOn_77 : decode b_R_goesOn 77 = .ok (.if_icmp .le 4, 3) := by decide +kernel
theorem d_R_goesOn_80 : decode b_R_goesOn 80 = .ok (.return_, 1) := by decide +kernel
theorem d_R_goesOn_81 : decode b_R_goesOn 81 = .ok (.aload_n 0, 1) := by decide +kernel
theorem d_R_goesOn_82 : decode b_R_goesOn 82 = .ok (.iload_n 1, 1) := by decide +kernel
theorem d_R_goesOn_83 : decode b_R_goesOn 83 = .ok (.iload_n 3, 1) := by decide +kernel
theorem d_R_goesOn_84 : decode b_R_goesOn 84 = .ok (.invokevirtual 145, 3) := by decide +kernel
theorem d_R_goesOn_87 : decode b_R_goesOn 87 = .ok (.aload_n 0, 1) := by decide +kernel
theorem d_R_goesOn_88 : decode b_R_goesOn 88 = .ok (.getfield 40, 3) := by decide +kernel
theorem d_R_goesOn_91 : decode b_R_goesOn 91 = .ok (.iload_n 1, 1) := by decide +kernel
theorem d_R_goesOn_92 : decode b_R_goesOn 92 = .ok (.aload_n 0, 1) := by decide +kernel
theorem d_R_goesOn_93 : decode b_R_goesOn 93 = .ok (.getfield 40, 3) := by decide +kernel
theorem d_R_goesOn_96 : decode b_R_goesOn 96 = .ok (.iload_n 1, 1) := by decide +kernel
theorem d_R_goesOn_97 : decode b_R_goesOn 97 = .ok (.iaload, 1) := by decide +kernel
theorem d_R_goesOn_98 : decode b_R_goesOn 98 = .ok (.iconst 1, 1) := by decide +kernel
theorem d_R_goesOn_99 : decode b_R_goesOn 99 = .ok (.iadd, 1) := by decide +kernel
theorem d_R_goesOn_100 : decode b_R_goesOn 100 = .ok (.iconst 0, 1) := by decide +kernel
theorem d_R_goesOn_101 : decode b_R_goesOn 101 = .ok (.bipush 99, 2) := by decide +kernel
theorem d_R_goesOn_103 : decode b_R_goesOn 103 = .ok (.invokestatic 185, 3) := by decide +kernel
theorem d_R_goesOn_106 : decode b_R_goesOn 106 = .ok (.iastore, 1) := by decide +kernel
theorem d_R_goesOn_107 : decode b_R_goesOn 107 = .ok (.return_, 1) := by decide +kernel
abbrev b_R_goesMonth : ByteArray := prog_11_method_45_code
def y_R_goesMonth : MethodName := ⟨"PassedOnAndBetterModel", "goesMonth", "(Z)V"⟩
theorem m_R_goesMonth : MV y_R_goesMonth b_R_goesMonth 3 none 1 := ⟨mG 1201 (by decide +kernel) (by decide +kernel), mG 91 (by decide +kernel) (by decide +kernel), by decide +kernel⟩
theorem mi_R_goesMonth : Cond.instanceMethod y_R_goesMonth ∈ tbG := mG 1200 (by decide +kernel) (by decide +kernel)
theorem ms_R_goesMonth : Cond.selects y_R_goesMonth.cls y_R_goesMonth y_R_goesMonth ∈ tbG := mG 51 (by decide +kernel) (by decide +kernel)
theorem d_R_goesMonth_0 : decode b_R_goesMonth 0 = .ok (.aload_n 0, 1) := by decide +kernel
theorem d_R_goesMonth_1 : decode b_R_goesMonth 1 = .ok (.dup, 1) := by decide +kernel
theorem d_R_goesMonth_2 : decode b_R_goesMonth 2 = .ok (.getfield 126, 3) := by decide +kernel
theorem d_R_goesMonth_5 : decode b_R_goesMonth 5 = .ok (.iconst 1, 1) := by decide +kernel
theorem d_R_goesMonth_6 : decode b_R_goesMonth 6 = .ok (.iadd, 1) := by decide +kernel
theorem d_R_goesMonth_7 : decode b_R_goesMonth 7 = .ok (.putfield 126, 3) := by decide +kernel
theorem d_R_goesMonth_10 : decode b_R_goesMonth 10 = .ok (.iconst 0, 1) := by decide +kernel
theorem d_R_goesMonth_11 : decode b_R_goesMonth 11 = .ok (.istore_n 2, 1) := by decide +kernel
theorem d_R_goesMonth_12 : decode b_R_goesMonth 12 = .ok (.iload_n 2, 1) := by decide +kernel
theorem d_R_goesMonth_13 : decode b_R_goesMonth 13 = .ok (.aload_n 0, 1) := by decide +kernel
theorem d_R_goesMonth_14 : decode b_R_goesMonth 14 = .ok (.getfield 67, 3) := by decide +kernel
theorem d_R_goesMonth_17 : decode b_R_goesMonth 17 = .ok (.if_icmp .ge 15, 3) := by decide +kernel
theorem d_R_goesMonth_20 : decode b_R_goesMonth 20 = .ok (.aload_n 0, 1) := by decide +kernel
theorem d_R_goesMonth_21 : decode b_R_goesMonth 21 = .ok (.iload_n 2, 1) := by decide +kernel
theorem d_R_goesMonth_22 : decode b_R_goesMonth 22 = .ok (.iload_n 1, 1) := by decide +kernel
theorem d_R_goesMonth_23 : decode b_R_goesMonth 23 = .ok (.invokevirtual 206, 3) := by decide +kernel
theorem d_R_goesMonth_26 : decode b_R_goesMonth 26 = .ok (.iinc 2 1, 3) := by decide +kernel
theorem d_R_goesMonth_29 : decode b_R_goesMonth 29 = .ok (.goto (-17), 3) := by decide +kernel
theorem d_R_goesMonth_32 : decode b_R_goesMonth 32 = .ok (.return_, 1) := by decide +kernel
abbrev b_R_goes : ByteArray := prog_11_method_46_code
def y_R_goes : MethodName := ⟨"PassedOnAndBetterModel", "goes", "(I)V"⟩
theorem m_R_goes : MV y_R_goes b_R_goes 3 none 1 := ⟨mG 1197 (by decide +kernel) (by decide +kernel), mG 91 (by decide +kernel) (by decide +kernel), by decide +kernel⟩
theorem mi_R_goes : Cond.instanceMethod y_R_goes ∈ tbG := mG 1196 (by decide +kernel) (by decide +kernel)
theorem ms_R_goes : Cond.selects y_R_goes.cls y_R_goes y_R_goes ∈ tbG := mG 50 (by decide +kernel) (by decide +kernel)
theorem d_R_goes_0 : decode b_R_goes 0 = .ok (.iconst 0, 1) := by decide +kernel
theorem d_R_goes_1 : decode b_R_goes 1 = .ok (.istore_n 2, 1) := by decide +kernel
theorem d_R_goes_2 : decode b_R_goes 2 = .ok (.iload_n 2, 1) := by decide +kernel
theorem d_R_goes_3 : decode b_R_goes 3 = .ok (.iload_n 1, 1) := by decide +kernel
theorem d_R_goes_4 : decode b_R_goes 4 = .ok (.if_icmp .ge 14, 3) := by decide +kernel
theorem d_R_goes_7 : decode b_R_goes 7 = .ok (.aload_n 0, 1) := by decide +kernel
theorem d_R_goes_8 : decode b_R_goes 8 = .ok (.iconst 0, 1) := by decide +kernel
theorem d_R_goes_9 : decode b_R_goes 9 = .ok (.invokevirtual 209, 3) := by decide +kernel
theorem d_R_goes_12 : decode b_R_goes 12 = .ok (.iinc 2 1, 3) := by decide +kernel
theorem d_R_goes_15 : decode b_R_goes 15 = .ok (.goto (-13), 3) := by decide +kernel
theorem d_R_goes_18 : decode b_R_goes 18 = .ok (.return_, 1) := by decide +kernel
abbrev b_R_comesMonths : ByteArray := prog_11_method_20_code
def y_R_comesMonths : MethodName := ⟨"PassedOnAndBetterModel", "comesMonths", "(I)Z"⟩
theorem m_R_comesMonths : MV y_R_comesMonths b_R_comesMonths 2 (some .boolean) 1 := ⟨mG 1193 (by decide +kernel) (by decide +kernel), mG 91 (by decide +kernel) (by decide +kernel), by decide +kernel⟩
theorem mi_R_comesMonths : Cond.instanceMethod y_R_comesMonths ∈ tbG := mG 1192 (by decide +kernel) (by decide +kernel)
theorem ms_R_comesMonths : Cond.selects y_R_comesMonths.cls y_R_comesMonths y_R_comesMonths ∈ tbG := mG 49 (by decide +kernel) (by decide +kernel)
theorem d_R_comesMonths_0 : decode b_R_comesMonths 0 = .ok (.iload_n 1, 1) := by decide +kernel
theorem d_R_comesMonths_1 : decode b_R_comesMonths 1 = .ok (.iconst 1, 1) := by decide +kernel
theorem d_R_comesMonths_2 : decode b_R_comesMonths 2 = .ok (.bipush 60, 2) := by decide +kernel
theorem d_R_comesMonths_4 : decode b_R_comesMonths 4 = .ok (.invokestatic 98, 3) := by decide +kernel
theorem d_R_comesMonths_7 : decode b_R_comesMonths 7 = .ok (.ifCond .eq 15, 3) := by decide +kernel
theorem d_R_comesMonths_10 : decode b_R_comesMonths 10 = .ok (.aload_n 0, 1) := by decide +kernel
theorem d_R_comesMonths_11 : decode b_R_comesMonths 11 = .ok (.getfield 126, 3) := by decide +kernel
theorem d_R_comesMonths_14 : decode b_R_comesMonths 14 = .ok (.iload_n 1, 1) := by decide +kernel
theorem d_R_comesMonths_15 : decode b_R_comesMonths 15 = .ok (.iadd, 1) := by decide +kernel
theorem d_R_comesMonths_16 : decode b_R_comesMonths 16 = .ok (.sipush 999, 3) := by decide +kernel
theorem d_R_comesMonths_19 : decode b_R_comesMonths 19 = .ok (.if_icmp .le 5, 3) := by decide +kernel
theorem d_R_comesMonths_22 : decode b_R_comesMonths 22 = .ok (.iconst 0, 1) := by decide +kernel
theorem d_R_comesMonths_23 : decode b_R_comesMonths 23 = .ok (.ireturn, 1) := by decide +kernel
theorem d_R_comesMonths_24 : decode b_R_comesMonths 24 = .ok (.aload_n 0, 1) := by decide +kernel
theorem d_R_comesMonths_25 : decode b_R_comesMonths 25 = .ok (.iload_n 1, 1) := by decide +kernel
theorem d_R_comesMonths_26 : decode b_R_comesMonths 26 = .ok (.invokevirtual 129, 3) := by decide +kernel
theorem d_R_comesMonths_29 : decode b_R_comesMonths 29 = .ok (.iconst 1, 1) := by decide +kernel
theorem d_R_comesMonths_30 : decode b_R_comesMonths 30 = .ok (.ireturn, 1) := by decide +kernel
abbrev b_R_comes1 : ByteArray := prog_11_method_21_code
def y_R_comes1 : MethodName := ⟨"PassedOnAndBetterModel", "comes", "(I)Z"⟩
theorem m_R_comes1 : MV y_R_comes1 b_R_comes1 3 (some .boolean) 1 := ⟨mG 1149 (by decide +kernel) (by decide +kernel), mG 91 (by decide +kernel) (by decide +kernel), by decide +kernel⟩
theorem mi_R_comes1 : Cond.instanceMethod y_R_comes1 ∈ tbG := mG 1148 (by decide +kernel) (by decide +kernel)
theorem ms_R_comes1 : Cond.selects y_R_comes1.cls y_R_comes1 y_R_comes1 ∈ tbG := mG 38 (by decide +kernel) (by decide +kernel)
theorem d_R_comes1_0 : decode b_R_comes1 0 = .ok (.iconst 3, 1) := by decide +kernel
theorem d_R_comes1_1 : decode b_R_comes1 1 = .ok (.iload_n 1, 1) := by decide +kernel
theorem d_R_comes1_2 : decode b_R_comes1 2 = .ok (.imul, 1) := by decide +kernel
theorem d_R_comes1_3 : decode b_R_comes1 3 = .ok (.istore_n 2, 1) := by decide +kernel
theorem d_R_comes1_4 : decode b_R_comes1 4 = .ok (.aload_n 0, 1) := by decide +kernel
theorem d_R_comes1_5 : decode b_R_comes1 5 = .ok (.getfield 49, 3) := by decide +kernel
theorem d_R_comes1_8 : decode b_R_comes1 8 = .ok (.iload_n 1, 1) := by decide +kernel
theorem d_R_comes1_9 : decode b_R_comes1 9 = .ok (.iaload, 1) := by decide +kernel
theorem d_R_comes1_10 : decode b_R_comes1 10 = .ok (.tableswitch 228 100 110 #[131, 228, 58, 85, 178, 228, 228, 228, 228, 228, 112], 58) := by decide +kernel
theorem d_R_comes1_68 : decode b_R_comes1 68 = .ok (.aload_n 0, 1) := by decide +kernel
theorem d_R_comes1_69 : decode b_R_comes1 69 = .ok (.aload_n 0, 1) := by decide +kernel
theorem d_R_comes1_70 : decode b_R_comes1 70 = .ok (.getfield 55, 3) := by decide +kernel
theorem d_R_comes1_73 : decode b_R_comes1 73 = .ok (.iload_n 2, 1) := by decide +kernel
theorem d_R_comes1_74 : decode b_R_comes1 74 = .ok (.iaload, 1) := by decide +kernel
theorem d_R_comes1_75 : decode b_R_comes1 75 = .ok (.aload_n 0, 1) := by decide +kernel
theorem d_R_comes1_76 : decode b_R_comes1 76 = .ok (.getfield 55, 3) := by decide +kernel
theorem d_R_comes1_79 : decode b_R_comes1 79 = .ok (.iload_n 2, 1) := by decide +kernel
theorem d_R_comes1_80 : decode b_R_comes1 80 = .ok (.iconst 1, 1) := by decide +kernel
theorem d_R_comes1_81 : decode b_R_comes1 81 = .ok (.iadd, 1) := by decide +kernel
theorem d_R_comes1_82 : decode b_R_comes1 82 = .ok (.iaload, 1) := by decide +kernel
theorem d_R_comes1_83 : decode b_R_comes1 83 = .ok (.aload_n 0, 1) := by decide +kernel
theorem d_R_comes1_84 : decode b_R_comes1 84 = .ok (.getfield 55, 3) := by decide +kernel
theorem d_R_comes1_87 : decode b_R_comes1 87 = .ok (.iload_n 2, 1) := by decide +kernel
theorem d_R_comes1_88 : decode b_R_comes1 88 = .ok (.iconst 2, 1) := by decide +kernel
theorem d_R_comes1_89 : decode b_R_comes1 89 = .ok (.iadd, 1) := by decide +kernel
theorem d_R_comes1_90 : decode b_R_comes1 90 = .ok (.iaload, 1) := by decide +kernel
theorem d_R_comes1_91 : decode b_R_comes1 91 = .ok (.invokevirtual 133, 3) := by decide +kernel
theorem d_R_comes1_94 : decode b_R_comes1 94 = .ok (.ireturn, 1) := by decide +kernel
theorem d_R_comes1_95 : decode b_R_comes1 95 = .ok (.aload_n 0, 1) := by decide +kernel
theorem d_R_comes1_96 : decode b_R_comes1 96 = .ok (.aload_n 0, 1) := by decide +kernel
theorem d_R_comes1_97 : decode b_R_comes1 97 = .ok (.getfield 55, 3) := by decide +kernel
theorem d_R_comes1_100 : decode b_R_comes1 100 = .ok (.iload_n 2, 1) := by decide +kernel
theorem d_R_comes1_101 : decode b_R_comes1 101 = .ok (.iaload, 1) := by decide +kernel
theorem d_R_comes1_102 : decode b_R_comes1 102 = .ok (.aload_n 0, 1) := by decide +kernel
theorem d_R_comes1_103 : decode b_R_comes1 103 = .ok (.getfield 55, 3) := by decide +kernel
theorem d_R_comes1_106 : decode b_R_comes1 106 = .ok (.iload_n 2, 1) := by decide +kernel
theorem d_R_comes1_107 : decode b_R_comes1 107 = .ok (.iconst 1, 1) := by decide +kernel
theorem d_R_comes1_108 : decode b_R_comes1 108 = .ok (.iadd, 1) := by decide +kernel
theorem d_R_comes1_109 : decode b_R_comes1 109 = .ok (.iaload, 1) := by decide +kernel
theorem d_R_comes1_110 : decode b_R_comes1 110 = .ok (.aload_n 0, 1) := by decide +kernel
theorem d_R_comes1_111 : decode b_R_comes1 111 = .ok (.getfield 55, 3) := by decide +kernel
theorem d_R_comes1_114 : decode b_R_comes1 114 = .ok (.iload_n 2, 1) := by decide +kernel
theorem d_R_comes1_115 : decode b_R_comes1 115 = .ok (.iconst 2, 1) := by decide +kernel
theorem d_R_comes1_116 : decode b_R_comes1 116 = .ok (.iadd, 1) := by decide +kernel
theorem d_R_comes1_117 : decode b_R_comes1 117 = .ok (.iaload, 1) := by decide +kernel
theorem d_R_comes1_118 : decode b_R_comes1 118 = .ok (.invokevirtual 136, 3) := by decide +kernel
theorem d_R_comes1_121 : decode b_R_comes1 121 = .ok (.ireturn, 1) := by decide +kernel
theorem d_R_comes1_122 : decode b_R_comes1 122 = .ok (.aload_n 0, 1) := by decide +kernel
theorem d_R_comes1_123 : decode b_R_comes1 123 = .ok (.aload_n 0, 1) := by decide +kernel
theorem d_R_comes1_124 : decode b_R_comes1 124 = .ok (.getfield 55, 3) := by decide +kernel
theorem d_R_comes1_127 : decode b_R_comes1 127 = .ok (.iload_n 2, 1) := by decide +kernel
theorem d_R_comes1_128 : decode b_R_comes1 128 = .ok (.iaload, 1) := by decide +kernel
theorem d_R_comes1_129 : decode b_R_comes1 129 = .ok (.aload_n 0, 1) := by decide +kernel
theorem d_R_comes1_130 : decode b_R_comes1 130 = .ok (.getfield 55, 3) := by decide +kernel
theorem d_R_comes1_133 : decode b_R_comes1 133 = .ok (.iload_n 2, 1) := by decide +kernel
theorem d_R_comes1_134 : decode b_R_comes1 134 = .ok (.iconst 1, 1) := by decide +kernel
theorem d_R_comes1_135 : decode b_R_comes1 135 = .ok (.iadd, 1) := by decide +kernel
theorem d_R_comes1_136 : decode b_R_comes1 136 = .ok (.iaload, 1) := by decide +kernel
theorem d_R_comes1_137 : decode b_R_comes1 137 = .ok (.invokevirtual 139, 3) := by decide +kernel
theorem d_R_comes1_140 : decode b_R_comes1 140 = .ok (.ireturn, 1) := by decide +kernel
theorem d_R_comes1_141 : decode b_R_comes1 141 = .ok (.aload_n 0, 1) := by decide +kernel
theorem d_R_comes1_142 : decode b_R_comes1 142 = .ok (.aload_n 0, 1) := by decide +kernel
theorem d_R_comes1_143 : decode b_R_comes1 143 = .ok (.getfield 55, 3) := by decide +kernel
theorem d_R_comes1_146 : decode b_R_comes1 146 = .ok (.iload_n 2, 1) := by decide +kernel
theorem d_R_comes1_147 : decode b_R_comes1 147 = .ok (.iaload, 1) := by decide +kernel
theorem d_R_comes1_148 : decode b_R_comes1 148 = .ok (.invokevirtual 76, 3) := by decide +kernel
theorem d_R_comes1_151 : decode b_R_comes1 151 = .ok (.ifCond .eq 14, 3) := by decide +kernel
theorem d_R_comes1_154 : decode b_R_comes1 154 = .ok (.aload_n 0, 1) := by decide +kernel
theorem d_R_comes1_155 : decode b_R_comes1 155 = .ok (.getfield 55, 3) := by decide +kernel
theorem d_R_comes1_158 : decode b_R_comes1 158 = .ok (.iload_n 2, 1) := by decide +kernel
theorem d_R_comes1_159 : decode b_R_comes1 159 = .ok (.iconst 1, 1) := by decide +kernel
theorem d_R_comes1_160 : decode b_R_comes1 160 = .ok (.iadd, 1) := by decide +kernel
theorem d_R_comes1_161 : decode b_R_comes1 161 = .ok (.iaload, 1) := by decide +kernel
theorem d_R_comes1_162 : decode b_R_comes1 162 = .ok (.ifCond .ne 5, 3) := by decide +kernel
theorem d_R_comes1_165 : decode b_R_comes1 165 = .ok (.iconst 0, 1) := by decide +kernel
theorem d_R_comes1_166 : decode b_R_comes1 166 = .ok (.ireturn, 1) := by decide +kernel
theorem d_R_comes1_167 : decode b_R_comes1 167 = .ok (.aload_n 0, 1) := by decide +kernel
theorem d_R_comes1_168 : decode b_R_comes1 168 = .ok (.getfield 19, 3) := by decide +kernel
theorem d_R_comes1_171 : decode b_R_comes1 171 = .ok (.aload_n 0, 1) := by decide +kernel
theorem d_R_comes1_172 : decode b_R_comes1 172 = .ok (.getfield 55, 3) := by decide +kernel
theorem d_R_comes1_175 : decode b_R_comes1 175 = .ok (.iload_n 2, 1) := by decide +kernel
theorem d_R_comes1_176 : decode b_R_comes1 176 = .ok (.iaload, 1) := by decide +kernel
theorem d_R_comes1_177 : decode b_R_comes1 177 = .ok (.aload_n 0, 1) := by decide +kernel
theorem d_R_comes1_178 : decode b_R_comes1 178 = .ok (.getfield 55, 3) := by decide +kernel
theorem d_R_comes1_181 : decode b_R_comes1 181 = .ok (.iload_n 2, 1) := by decide +kernel
theorem d_R_comes1_182 : decode b_R_comes1 182 = .ok (.iconst 1, 1) := by decide +kernel
theorem d_R_comes1_183 : decode b_R_comes1 183 = .ok (.iadd, 1) := by decide +kernel
theorem d_R_comes1_184 : decode b_R_comes1 184 = .ok (.iaload, 1) := by decide +kernel
theorem d_R_comes1_185 : decode b_R_comes1 185 = .ok (.iastore, 1) := by decide +kernel
theorem d_R_comes1_186 : decode b_R_comes1 186 = .ok (.iconst 1, 1) := by decide +kernel
theorem d_R_comes1_187 : decode b_R_comes1 187 = .ok (.ireturn, 1) := by decide +kernel
theorem d_R_comes1_188 : decode b_R_comes1 188 = .ok (.aload_n 0, 1) := by decide +kernel
theorem d_R_comes1_189 : decode b_R_comes1 189 = .ok (.aload_n 0, 1) := by decide +kernel
theorem d_R_comes1_190 : decode b_R_comes1 190 = .ok (.getfield 55, 3) := by decide +kernel
theorem d_R_comes1_193 : decode b_R_comes1 193 = .ok (.iload_n 2, 1) := by decide +kernel
theorem d_R_comes1_194 : decode b_R_comes1 194 = .ok (.iaload, 1) := by decide +kernel
theorem d_R_comes1_195 : decode b_R_comes1 195 = .ok (.invokevirtual 142, 3) := by decide +kernel
theorem d_R_comes1_198 : decode b_R_comes1 198 = .ok (.ifCond .eq 18, 3) := by decide +kernel
theorem d_R_comes1_201 : decode b_R_comes1 201 = .ok (.aload_n 0, 1) := by decide +kernel
theorem d_R_comes1_202 : decode b_R_comes1 202 = .ok (.aload_n 0, 1) := by decide +kernel
theorem d_R_comes1_203 : decode b_R_comes1 203 = .ok (.getfield 55, 3) := by decide +kernel
theorem d_R_comes1_206 : decode b_R_comes1 206 = .ok (.iload_n 2, 1) := by decide +kernel
theorem d_R_comes1_207 : decode b_R_comes1 207 = .ok (.iconst 1, 1) := by decide +kernel
theorem d_R_comes1_208 : decode b_R_comes1 208 = .ok (.iadd, 1) := by decide +kernel
theorem d_R_comes1_209 : decode b_R_comes1 209 = .ok (.iaload, 1) := by decide +kernel
theorem d_R_comes1_210 : decode b_R_comes1 210 = .ok (.invokevirtual 76, 3) := by decide +kernel
theorem d_R_comes1_213 : decode b_R_comes1 213 = .ok (.ifCond .ne 5, 3) := by decide +kernel
theorem d_R_comes1_216 : decode b_R_comes1 216 = .ok (.iconst 0, 1) := by decide +kernel
theorem d_R_comes1_217 : decode b_R_comes1 217 = .ok (.ireturn, 1) := by decide +kernel
theorem d_R_comes1_218 : decode b_R_comes1 218 = .ok (.aload_n 0, 1) := by decide +kernel
theorem d_R_comes1_219 : decode b_R_comes1 219 = .ok (.aload_n 0, 1) := by decide +kernel
theorem d_R_comes1_220 : decode b_R_comes1 220 = .ok (.getfield 55, 3) := by decide +kernel
theorem d_R_comes1_223 : decode b_R_comes1 223 = .ok (.iload_n 2, 1) := by decide +kernel
theorem d_R_comes1_224 : decode b_R_comes1 224 = .ok (.iaload, 1) := by decide +kernel
theorem d_R_comes1_225 : decode b_R_comes1 225 = .ok (.aload_n 0, 1) := by decide +kernel
theorem d_R_comes1_226 : decode b_R_comes1 226 = .ok (.getfield 55, 3) := by decide +kernel
theorem d_R_comes1_229 : decode b_R_comes1 229 = .ok (.iload_n 2, 1) := by decide +kernel
theorem d_R_comes1_230 : decode b_R_comes1 230 = .ok (.iconst 1, 1) := by decide +kernel
theorem d_R_comes1_231 : decode b_R_comes1 231 = .ok (.iadd, 1) := by decide +kernel
theorem d_R_comes1_232 : decode b_R_comes1 232 = .ok (.iaload, 1) := by decide +kernel
theorem d_R_comes1_233 : decode b_R_comes1 233 = .ok (.invokevirtual 145, 3) := by decide +kernel
theorem d_R_comes1_236 : decode b_R_comes1 236 = .ok (.iconst 1, 1) := by decide +kernel
theorem d_R_comes1_237 : decode b_R_comes1 237 = .ok (.ireturn, 1) := by decide +kernel
theorem d_R_comes1_238 : decode b_R_comes1 238 = .ok (.aload_n 0, 1) := by decide +kernel
theorem d_R_comes1_239 : decode b_R_comes1 239 = .ok (.aload_n 0, 1) := by decide +kernel
theorem d_R_comes1_240 : decode b_R_comes1 240 = .ok (.getfield 55, 3) := by decide +kernel
theorem d_R_comes1_243 : decode b_R_comes1 243 = .ok (.iload_n 2, 1) := by decide +kernel
theorem d_R_comes1_244 : decode b_R_comes1 244 = .ok (.iaload, 1) := by decide +kernel
theorem d_R_comes1_245 : decode b_R_comes1 245 = .ok (.invokevirtual 148, 3) := by decide +kernel
theorem d_R_comes1_248 : decode b_R_comes1 248 = .ok (.ireturn, 1) := by decide +kernel
abbrev b_R_circle : ByteArray := prog_11_method_22_code
def y_R_circle : MethodName := ⟨"PassedOnAndBetterModel", "circle", "()I"⟩
theorem m_R_circle : MV y_R_circle b_R_circle 3 (some .int) 0 := ⟨mG 1114 (by decide +kernel) (by decide +kernel), mG 91 (by decide +kernel) (by decide +kernel), by decide +kernel⟩
theorem mi_R_circle : Cond.instanceMethod y_R_circle ∈ tbG := mG 1112 (by decide +kernel) (by decide +kernel)
theorem ms_R_circle : Cond.selects y_R_circle.cls y_R_circle y_R_circle ∈ tbG := mG 1113 (by decide +kernel) (by decide +kernel)
theorem d_R_circle_0 : decode b_R_circle 0 = .ok (.aload_n 0, 1) := by decide +kernel
theorem d_R_circle_1 : decode b_R_circle 1 = .ok (.iconst 0, 1) := by decide +kernel
theorem d_R_circle_2 : decode b_R_circle 2 = .ok (.putfield 91, 3) := by decide +kernel
theorem d_R_circle_5 : decode b_R_circle 5 = .ok (.aload_n 0, 1) := by decide +kernel
theorem d_R_circle_6 : decode b_R_circle 6 = .ok (.iconst 0, 1) := by decide +kernel
theorem d_R_circle_7 : decode b_R_circle 7 = .ok (.putfield 106, 3) := by decide +kernel
theorem d_R_circle_10 : decode b_R_circle 10 = .ok (.iconst 1, 1) := by decide +kernel
theorem d_R_circle_11 : decode b_R_circle 11 = .ok (.istore_n 1, 1) := by decide +kernel
theorem d_R_circle_12 : decode b_R_circle 12 = .ok (.iload_n 1, 1) := by decide +kernel
theorem d_R_circle_13 : decode b_R_circle 13 = .ok (.ifCond .eq 47, 3) := by decide +kernel
theorem d_R_circle_16 : decode b_R_circle 16 = .ok (.aload_n 0, 1) := by decide +kernel
theorem d_R_circle_17 : decode b_R_circle 17 = .ok (.getfield 91, 3) := by decide +kernel
theorem d_R_circle_20 : decode b_R_circle 20 = .ok (.aload_n 0, 1) := by decide +kernel
theorem d_R_circle_21 : decode b_R_circle 21 = .ok (.getfield 84, 3) := by decide +kernel
theorem d_R_circle_24 : decode b_R_circle 24 = .ok (.if_icmp .lt 10, 3) := by decide +kernel
theorem d_R_circle_27 : decode b_R_circle 27 = .ok (.aload_n 0, 1) := by decide +kernel
theorem d_R_circle_28 : decode b_R_circle 28 = .ok (.getfield 106, 3) := by decide +kernel
theorem d_R_circle_31 : decode b_R_circle 31 = .ok (.ifCond .ne 29, 3) := by decide +kernel
theorem d_R_circle_34 : decode b_R_circle 34 = .ok (.aload_n 0, 1) := by decide +kernel
theorem d_R_circle_35 : decode b_R_circle 35 = .ok (.invokevirtual 151, 3) := by decide +kernel
theorem d_R_circle_38 : decode b_R_circle 38 = .ok (.istore_n 1, 1) := by decide +kernel
theorem d_R_circle_39 : decode b_R_circle 39 = .ok (.aload_n 0, 1) := by decide +kernel
theorem d_R_circle_40 : decode b_R_circle 40 = .ok (.dup, 1) := by decide +kernel
theorem d_R_circle_41 : decode b_R_circle 41 = .ok (.getfield 106, 3) := by decide +kernel
theorem d_R_circle_44 : decode b_R_circle 44 = .ok (.iload_n 1, 1) := by decide +kernel
theorem d_R_circle_45 : decode b_R_circle 45 = .ok (.ifCond .eq 7, 3) := by decide +kernel
theorem d_R_circle_48 : decode b_R_circle 48 = .ok (.iconst 1, 1) := by decide +kernel
theorem d_R_circle_49 : decode b_R_circle 49 = .ok (.goto 4, 3) := by decide +kernel
theorem d_R_circle_52 : decode b_R_circle 52 = .ok (.iconst 0, 1) := by decide +kernel
theorem d_R_circle_53 : decode b_R_circle 53 = .ok (.iadd, 1) := by decide +kernel
theorem d_R_circle_54 : decode b_R_circle 54 = .ok (.putfield 106, 3) := by decide +kernel
theorem d_R_circle_57 : decode b_R_circle 57 = .ok (.goto (-45), 3) := by decide +kernel
theorem d_R_circle_60 : decode b_R_circle 60 = .ok (.aload_n 0, 1) := by decide +kernel
theorem d_R_circle_61 : decode b_R_circle 61 = .ok (.iconst 0, 1) := by decide +kernel
theorem d_R_circle_62 : decode b_R_circle 62 = .ok (.putfield 84, 3) := by decide +kernel
theorem d_R_circle_65 : decode b_R_circle 65 = .ok (.iload_n 1, 1) := by decide +kernel
theorem d_R_circle_66 : decode b_R_circle 66 = .ok (.ifCond .ne 12, 3) := by decide +kernel
theorem d_R_circle_69 : decode b_R_circle 69 = .ok (.sipush (-1000), 3) := by decide +kernel
theorem d_R_circle_72 : decode b_R_circle 72 = .ok (.aload_n 0, 1) := by decide +kernel
theorem d_R_circle_73 : decode b_R_circle 73 = .ok (.getfield 91, 3) := by decide +kernel
theorem d_R_circle_76 : decode b_R_circle 76 = .ok (.isub, 1) := by decide +kernel
theorem d_R_circle_77 : decode b_R_circle 77 = .ok (.ireturn, 1) := by decide +kernel
theorem d_R_circle_78 : decode b_R_circle 78 = .ok (.aload_n 0, 1) := by decide +kernel
theorem d_R_circle_79 : decode b_R_circle 79 = .ok (.iconst 1, 1) := by decide +kernel
theorem d_R_circle_80 : decode b_R_circle 80 = .ok (.iconst 1, 1) := by decide +kernel
theorem d_R_circle_81 : decode b_R_circle 81 = .ok (.invokevirtual 155, 3) := by decide +kernel
theorem d_R_circle_84 : decode b_R_circle 84 = .ok (.iconst 0, 1) := by decide +kernel
theorem d_R_circle_85 : decode b_R_circle 85 = .ok (.istore_n 2, 1) := by decide +kernel
theorem d_R_circle_86 : decode b_R_circle 86 = .ok (.iload_n 2, 1) := by decide +kernel
theorem d_R_circle_87 : decode b_R_circle 87 = .ok (.aload_n 0, 1) := by decide +kernel
theorem d_R_circle_88 : decode b_R_circle 88 = .ok (.getfield 106, 3) := by decide +kernel
theorem d_R_circle_91 : decode b_R_circle 91 = .ok (.if_icmp .ge 37, 3) := by decide +kernel
theorem d_R_circle_94 : decode b_R_circle 94 = .ok (.aload_n 0, 1) := by decide +kernel
theorem d_R_circle_95 : decode b_R_circle 95 = .ok (.iload_n 2, 1) := by decide +kernel
theorem d_R_circle_96 : decode b_R_circle 96 = .ok (.invokevirtual 159, 3) := by decide +kernel
theorem d_R_circle_99 : decode b_R_circle 99 = .ok (.ifCond .eq 6, 3) := by decide +kernel
theorem d_R_circle_102 : decode b_R_circle 102 = .ok (.goto 20, 3) := by decide +kernel
theorem d_R_circle_105 : decode b_R_circle 105 = .ok (.aload_n 0, 1) := by decide +kernel
theorem d_R_circle_106 : decode b_R_circle 106 = .ok (.iconst 1, 1) := by decide +kernel
theorem d_R_circle_107 : decode b_R_circle 107 = .ok (.iconst 0, 1) := by decide +kernel
theorem d_R_circle_108 : decode b_R_circle 108 = .ok (.invokevirtual 155, 3) := by decide +kernel
theorem d_R_circle_111 : decode b_R_circle 111 = .ok (.sipush (-2000), 3) := by decide +kernel
theorem d_R_circle_114 : decode b_R_circle 114 = .ok (.aload_n 0, 1) := by decide +kernel
theorem d_R_circle_115 : decode b_R_circle 115 = .ok (.getfield 52, 3) := by decide +kernel
theorem d_R_circle_118 : decode b_R_circle 118 = .ok (.iload_n 2, 1) := by decide +kernel
theorem d_R_circle_119 : decode b_R_circle 119 = .ok (.iaload, 1) := by decide +kernel
theorem d_R_circle_120 : decode b_R_circle 120 = .ok (.isub, 1) := by decide +kernel
theorem d_R_circle_121 : decode b_R_circle 121 = .ok (.ireturn, 1) := by decide +kernel
theorem d_R_circle_122 : decode b_R_circle 122 = .ok (.iinc 2 1, 3) := by decide +kernel
theorem d_R_circle_125 : decode b_R_circle 125 = .ok (.goto (-39), 3) := by decide +kernel
theorem d_R_circle_128 : decode b_R_circle 128 = .ok (.aload_n 0, 1) := by decide +kernel
theorem d_R_circle_129 : decode b_R_circle 129 = .ok (.iconst 0, 1) := by decide +kernel
theorem d_R_circle_130 : decode b_R_circle 130 = .ok (.putfield 162, 3) := by decide +kernel
theorem d_R_circle_133 : decode b_R_circle 133 = .ok (.aload_n 0, 1) := by decide +kernel
theorem d_R_circle_134 : decode b_R_circle 134 = .ok (.getfield 106, 3) := by decide +kernel
theorem d_R_circle_137 : decode b_R_circle 137 = .ok (.ireturn, 1) := by decide +kernel
abbrev b_R_back : ByteArray := prog_11_method_31_code
def y_R_back : MethodName := ⟨"PassedOnAndBetterModel", "back", "()I"⟩
theorem m_R_back : MV y_R_back b_R_back 1 (some .int) 0 := ⟨mG 1235 (by decide +kernel) (by decide +kernel), mG 91 (by decide +kernel) (by decide +kernel), by decide +kernel⟩
theorem mi_R_back : Cond.instanceMethod y_R_back ∈ tbG := mG 1233 (by decide +kernel) (by decide +kernel)
theorem ms_R_back : Cond.selects y_R_back.cls y_R_back y_R_back ∈ tbG := mG 1234 (by decide +kernel) (by decide +kernel)
theorem d_R_back_0 : decode b_R_back 0 = .ok (.aload_n 0, 1) := by decide +kernel
theorem d_R_back_1 : decode b_R_back 1 = .ok (.getfield 162, 3) := by decide +kernel
theorem d_R_back_4 : decode b_R_back 4 = .ok (.ifCond .ne 10, 3) := by decide +kernel
theorem d_R_back_7 : decode b_R_back 7 = .ok (.aload_n 0, 1) := by decide +kernel
theorem d_R_back_8 : decode b_R_back 8 = .ok (.bipush (-3), 2) := by decide +kernel
theorem d_R_back_10 : decode b_R_back 10 = .ok (.invokevirtual 87, 3) := by decide +kernel
theorem d_R_back_13 : decode b_R_back 13 = .ok (.ireturn, 1) := by decide +kernel
theorem d_R_back_14 : decode b_R_back 14 = .ok (.aload_n 0, 1) := by decide +kernel
theorem d_R_back_15 : decode b_R_back 15 = .ok (.dup, 1) := by decide +kernel
theorem d_R_back_16 : decode b_R_back 16 = .ok (.getfield 162, 3) := by decide +kernel
theorem d_R_back_19 : decode b_R_back 19 = .ok (.iconst 1, 1) := by decide +kernel
theorem d_R_back_20 : decode b_R_back 20 = .ok (.isub, 1) := by decide +kernel
theorem d_R_back_21 : decode b_R_back 21 = .ok (.putfield 162, 3) := by decide +kernel
theorem d_R_back_24 : decode b_R_back 24 = .ok (.aload_n 0, 1) := by decide +kernel
theorem d_R_back_25 : decode b_R_back 25 = .ok (.iconst 3, 1) := by decide +kernel
theorem d_R_back_26 : decode b_R_back 26 = .ok (.aload_n 0, 1) := by decide +kernel
theorem d_R_back_27 : decode b_R_back 27 = .ok (.getfield 162, 3) := by decide +kernel
theorem d_R_back_30 : decode b_R_back 30 = .ok (.iadd, 1) := by decide +kernel
theorem d_R_back_31 : decode b_R_back 31 = .ok (.iconst 0, 1) := by decide +kernel
theorem d_R_back_32 : decode b_R_back 32 = .ok (.invokevirtual 155, 3) := by decide +kernel
theorem d_R_back_35 : decode b_R_back 35 = .ok (.aload_n 0, 1) := by decide +kernel
theorem d_R_back_36 : decode b_R_back 36 = .ok (.getfield 162, 3) := by decide +kernel
theorem d_R_back_39 : decode b_R_back 39 = .ok (.ireturn, 1) := by decide +kernel
abbrev b_R_image : ByteArray := prog_11_method_32_code
def y_R_image : MethodName := ⟨"PassedOnAndBetterModel", "image", "()I"⟩
theorem m_R_image : MV y_R_image b_R_image 1 (some .int) 0 := ⟨mG 1239 (by decide +kernel) (by decide +kernel), mG 91 (by decide +kernel) (by decide +kernel), by decide +kernel⟩
theorem mi_R_image : Cond.instanceMethod y_R_image ∈ tbG := mG 1237 (by decide +kernel) (by decide +kernel)
theorem ms_R_image : Cond.selects y_R_image.cls y_R_image y_R_image ∈ tbG := mG 1238 (by decide +kernel) (by decide +kernel)
theorem d_R_image_0 : decode b_R_image 0 = .ok (.aload_n 0, 1) := by decide +kernel
theorem d_R_image_1 : decode b_R_image 1 = .ok (.iconst 1, 1) := by decide +kernel
theorem d_R_image_2 : decode b_R_image 2 = .ok (.putfield 179, 3) := by decide +kernel
theorem d_R_image_5 : decode b_R_image 5 = .ok (.aload_n 0, 1) := by decide +kernel
theorem d_R_image_6 : decode b_R_image 6 = .ok (.iconst 0, 1) := by decide +kernel
theorem d_R_image_7 : decode b_R_image 7 = .ok (.iconst 1, 1) := by decide +kernel
theorem d_R_image_8 : decode b_R_image 8 = .ok (.invokevirtual 155, 3) := by decide +kernel
theorem d_R_image_11 : decode b_R_image 11 = .ok (.aload_n 0, 1) := by decide +kernel
theorem d_R_image_12 : decode b_R_image 12 = .ok (.getfield 126, 3) := by decide +kernel
theorem d_R_image_15 : decode b_R_image 15 = .ok (.ireturn, 1) := by decide +kernel
abbrev b_R_restore : ByteArray := prog_11_method_33_code
def y_R_restore : MethodName := ⟨"PassedOnAndBetterModel", "restore", "()I"⟩
theorem m_R_restore : MV y_R_restore b_R_restore 1 (some .int) 0 := ⟨mG 1243 (by decide +kernel) (by decide +kernel), mG 91 (by decide +kernel) (by decide +kernel), by decide +kernel⟩
theorem mi_R_restore : Cond.instanceMethod y_R_restore ∈ tbG := mG 1241 (by decide +kernel) (by decide +kernel)
theorem ms_R_restore : Cond.selects y_R_restore.cls y_R_restore y_R_restore ∈ tbG := mG 1242 (by decide +kernel) (by decide +kernel)
theorem d_R_restore_0 : decode b_R_restore 0 = .ok (.aload_n 0, 1) := by decide +kernel
theorem d_R_restore_1 : decode b_R_restore 1 = .ok (.getfield 179, 3) := by decide +kernel
theorem d_R_restore_4 : decode b_R_restore 4 = .ok (.ifCond .ne 10, 3) := by decide +kernel
theorem d_R_restore_7 : decode b_R_restore 7 = .ok (.aload_n 0, 1) := by decide +kernel
theorem d_R_restore_8 : decode b_R_restore 8 = .ok (.bipush (-3), 2) := by decide +kernel
theorem d_R_restore_10 : decode b_R_restore 10 = .ok (.invokevirtual 87, 3) := by decide +kernel
theorem d_R_restore_13 : decode b_R_restore 13 = .ok (.ireturn, 1) := by decide +kernel
theorem d_R_restore_14 : decode b_R_restore 14 = .ok (.aload_n 0, 1) := by decide +kernel
theorem d_R_restore_15 : decode b_R_restore 15 = .ok (.iconst 0, 1) := by decide +kernel
theorem d_R_restore_16 : decode b_R_restore 16 = .ok (.iconst 0, 1) := by decide +kernel
theorem d_R_restore_17 : decode b_R_restore 17 = .ok (.invokevirtual 155, 3) := by decide +kernel
theorem d_R_restore_20 : decode b_R_restore 20 = .ok (.aload_n 0, 1) := by decide +kernel
theorem d_R_restore_21 : decode b_R_restore 21 = .ok (.iconst 0, 1) := by decide +kernel
theorem d_R_restore_22 : decode b_R_restore 22 = .ok (.putfield 162, 3) := by decide +kernel
theorem d_R_restore_25 : decode b_R_restore 25 = .ok (.aload_n 0, 1) := by decide +kernel
theorem d_R_restore_26 : decode b_R_restore 26 = .ok (.getfield 126, 3) := by decide +kernel
theorem d_R_restore_29 : decode b_R_restore 29 = .ok (.ireturn, 1) := by decide +kernel
abbrev b_R_holds : ByteArray := prog_11_method_41_code
def y_R_holds : MethodName := ⟨"PassedOnAndBetterModel", "holds", "(I)I"⟩
theorem m_R_holds : MV y_R_holds b_R_holds 4 (some .int) 1 := ⟨mG 1251 (by decide +kernel) (by decide +kernel), mG 91 (by decide +kernel) (by decide +kernel), by decide +kernel⟩
theorem mi_R_holds : Cond.instanceMethod y_R_holds ∈ tbG := mG 1250 (by decide +kernel) (by decide +kernel)
theorem ms_R_holds : Cond.selects y_R_holds.cls y_R_holds y_R_holds ∈ tbG := mG 58 (by decide +kernel) (by decide +kernel)
theorem d_R_holds_0 : decode b_R_holds 0 = .ok (.iconst 0, 1) := by decide +kernel
theorem d_R_holds_1 : decode b_R_holds 1 = .ok (.istore_n 2, 1) := by decide +kernel
theorem d_R_holds_2 : decode b_R_holds 2 = .ok (.iconst 0, 1) := by decide +kernel
theorem d_R_holds_3 : decode b_R_holds 3 = .ok (.istore_n 3, 1) := by decide +kernel
theorem d_R_holds_4 : decode b_R_holds 4 = .ok (.iload_n 3, 1) := by decide +kernel
theorem d_R_holds_5 : decode b_R_holds 5 = .ok (.aload_n 0, 1) := by decide +kernel
theorem d_R_holds_6 : decode b_R_holds 6 = .ok (.getfield 67, 3) := by decide +kernel
theorem d_R_holds_9 : decode b_R_holds 9 = .ok (.if_icmp .ge 27, 3) := by decide +kernel
theorem d_R_holds_12 : decode b_R_holds 12 = .ok (.iload_n 2, 1) := by decide +kernel
theorem d_R_holds_13 : decode b_R_holds 13 = .ok (.aload_n 0, 1) := by decide +kernel
theorem d_R_holds_14 : decode b_R_holds 14 = .ok (.getfield 31, 3) := by decide +kernel
theorem d_R_holds_17 : decode b_R_holds 17 = .ok (.iload_n 3, 1) := by decide +kernel
theorem d_R_holds_18 : decode b_R_holds 18 = .ok (.iaload, 1) := by decide +kernel
theorem d_R_holds_19 : decode b_R_holds 19 = .ok (.iload_n 1, 1) := by decide +kernel
theorem d_R_holds_20 : decode b_R_holds 20 = .ok (.if_icmp .ne 7, 3) := by decide +kernel
theorem d_R_holds_23 : decode b_R_holds 23 = .ok (.iconst 1, 1) := by decide +kernel
theorem d_R_holds_24 : decode b_R_holds 24 = .ok (.goto 4, 3) := by decide +kernel
theorem d_R_holds_27 : decode b_R_holds 27 = .ok (.iconst 0, 1) := by decide +kernel
theorem d_R_holds_28 : decode b_R_holds 28 = .ok (.iadd, 1) := by decide +kernel
theorem d_R_holds_29 : decode b_R_holds 29 = .ok (.istore_n 2, 1) := by decide +kernel
theorem d_R_holds_30 : decode b_R_holds 30 = .ok (.iinc 3 1, 3) := by decide +kernel
theorem d_R_holds_33 : decode b_R_holds 33 = .ok (.goto (-29), 3) := by decide +kernel
theorem d_R_holds_36 : decode b_R_holds 36 = .ok (.iload_n 2, 1) := by decide +kernel
theorem d_R_holds_37 : decode b_R_holds 37 = .ok (.ireturn, 1) := by decide +kernel
abbrev b_R_friendOf : ByteArray := prog_11_method_48_code
def y_R_friendOf : MethodName := ⟨"PassedOnAndBetterModel", "friendOf", "(II)I"⟩
theorem m_R_friendOf : MV y_R_friendOf b_R_friendOf 3 (some .int) 2 := ⟨mG 1247 (by decide +kernel) (by decide +kernel), mG 91 (by decide +kernel) (by decide +kernel), by decide +kernel⟩
theorem mi_R_friendOf : Cond.instanceMethod y_R_friendOf ∈ tbG := mG 1245 (by decide +kernel) (by decide +kernel)
theorem ms_R_friendOf : Cond.selects y_R_friendOf.cls y_R_friendOf y_R_friendOf ∈ tbG := mG 1246 (by decide +kernel) (by decide +kernel)
theorem d_R_friendOf_0 : decode b_R_friendOf 0 = .ok (.aload_n 0, 1) := by decide +kernel
theorem d_R_friendOf_1 : decode b_R_friendOf 1 = .ok (.iload_n 1, 1) := by decide +kernel
theorem d_R_friendOf_2 : decode b_R_friendOf 2 = .ok (.invokevirtual 76, 3) := by decide +kernel
theorem d_R_friendOf_5 : decode b_R_friendOf 5 = .ok (.ifCond .ne 9, 3) := by decide +kernel
theorem d_R_friendOf_8 : decode b_R_friendOf 8 = .ok (.aload_n 0, 1) := by decide +kernel
theorem d_R_friendOf_9 : decode b_R_friendOf 9 = .ok (.iconst (-1), 1) := by decide +kernel
theorem d_R_friendOf_10 : decode b_R_friendOf 10 = .ok (.invokevirtual 87, 3) := by decide +kernel
theorem d_R_friendOf_13 : decode b_R_friendOf 13 = .ok (.ireturn, 1) := by decide +kernel
theorem d_R_friendOf_14 : decode b_R_friendOf 14 = .ok (.iload_n 2, 1) := by decide +kernel
theorem d_R_friendOf_15 : decode b_R_friendOf 15 = .ok (.tableswitch 103 0 7 #[45, 52, 59, 66, 73, 79, 85, 97], 45) := by decide +kernel
theorem d_R_friendOf_60 : decode b_R_friendOf 60 = .ok (.aload_n 0, 1) := by decide +kernel
theorem d_R_friendOf_61 : decode b_R_friendOf 61 = .ok (.getfield 13, 3) := by decide +kernel
theorem d_R_friendOf_64 : decode b_R_friendOf 64 = .ok (.iload_n 1, 1) := by decide +kernel
theorem d_R_friendOf_65 : decode b_R_friendOf 65 = .ok (.iaload, 1) := by decide +kernel
theorem d_R_friendOf_66 : decode b_R_friendOf 66 = .ok (.ireturn, 1) := by decide +kernel
theorem d_R_friendOf_67 : decode b_R_friendOf 67 = .ok (.aload_n 0, 1) := by decide +kernel
theorem d_R_friendOf_68 : decode b_R_friendOf 68 = .ok (.getfield 16, 3) := by decide +kernel
theorem d_R_friendOf_71 : decode b_R_friendOf 71 = .ok (.iload_n 1, 1) := by decide +kernel
theorem d_R_friendOf_72 : decode b_R_friendOf 72 = .ok (.iaload, 1) := by decide +kernel
theorem d_R_friendOf_73 : decode b_R_friendOf 73 = .ok (.ireturn, 1) := by decide +kernel
theorem d_R_friendOf_74 : decode b_R_friendOf 74 = .ok (.aload_n 0, 1) := by decide +kernel
theorem d_R_friendOf_75 : decode b_R_friendOf 75 = .ok (.getfield 19, 3) := by decide +kernel
theorem d_R_friendOf_78 : decode b_R_friendOf 78 = .ok (.iload_n 1, 1) := by decide +kernel
theorem d_R_friendOf_79 : decode b_R_friendOf 79 = .ok (.iaload, 1) := by decide +kernel
theorem d_R_friendOf_80 : decode b_R_friendOf 80 = .ok (.ireturn, 1) := by decide +kernel
theorem d_R_friendOf_81 : decode b_R_friendOf 81 = .ok (.aload_n 0, 1) := by decide +kernel
theorem d_R_friendOf_82 : decode b_R_friendOf 82 = .ok (.getfield 22, 3) := by decide +kernel
theorem d_R_friendOf_85 : decode b_R_friendOf 85 = .ok (.iload_n 1, 1) := by decide +kernel
theorem d_R_friendOf_86 : decode b_R_friendOf 86 = .ok (.iaload, 1) := by decide +kernel
theorem d_R_friendOf_87 : decode b_R_friendOf 87 = .ok (.ireturn, 1) := by decide +kernel
theorem d_R_friendOf_88 : decode b_R_friendOf 88 = .ok (.aload_n 0, 1) := by decide +kernel
theorem d_R_friendOf_89 : decode b_R_friendOf 89 = .ok (.iload_n 1, 1) := by decide +kernel
theorem d_R_friendOf_90 : decode b_R_friendOf 90 = .ok (.invokevirtual 200, 3) := by decide +kernel
theorem d_R_friendOf_93 : decode b_R_friendOf 93 = .ok (.ireturn, 1) := by decide +kernel
theorem d_R_friendOf_94 : decode b_R_friendOf 94 = .ok (.aload_n 0, 1) := by decide +kernel
theorem d_R_friendOf_95 : decode b_R_friendOf 95 = .ok (.iload_n 1, 1) := by decide +kernel
theorem d_R_friendOf_96 : decode b_R_friendOf 96 = .ok (.invokevirtual 188, 3) := by decide +kernel
theorem d_R_friendOf_99 : decode b_R_friendOf 99 = .ok (.ireturn, 1) := by decide +kernel
theorem d_R_friendOf_100 : decode b_R_friendOf 100 = .ok (.aload_n 0, 1) := by decide +kernel
theorem d_R_friendOf_101 : decode b_R_friendOf 101 = .ok (.iload_n 1, 1) := by decide +kernel
theorem d_R_friendOf_102 : decode b_R_friendOf 102 = .ok (.invokevirtual 182, 3) := by decide +kernel
theorem d_R_friendOf_105 : decode b_R_friendOf 105 = .ok (.iconst 0, 1) := by decide +kernel
theorem d_R_friendOf_106 : decode b_R_friendOf 106 = .ok (.bipush 99, 2) := by decide +kernel
theorem d_R_friendOf_108 : decode b_R_friendOf 108 = .ok (.invokestatic 185, 3) := by decide +kernel
theorem d_R_friendOf_111 : decode b_R_friendOf 111 = .ok (.ireturn, 1) := by decide +kernel
theorem d_R_friendOf_112 : decode b_R_friendOf 112 = .ok (.aload_n 0, 1) := by decide +kernel
theorem d_R_friendOf_113 : decode b_R_friendOf 113 = .ok (.iload_n 1, 1) := by decide +kernel
theorem d_R_friendOf_114 : decode b_R_friendOf 114 = .ok (.invokevirtual 213, 3) := by decide +kernel
theorem d_R_friendOf_117 : decode b_R_friendOf 117 = .ok (.ireturn, 1) := by decide +kernel
theorem d_R_friendOf_118 : decode b_R_friendOf 118 = .ok (.aload_n 0, 1) := by decide +kernel
theorem d_R_friendOf_119 : decode b_R_friendOf 119 = .ok (.bipush (-2), 2) := by decide +kernel
theorem d_R_friendOf_121 : decode b_R_friendOf 121 = .ok (.invokevirtual 87, 3) := by decide +kernel
theorem d_R_friendOf_124 : decode b_R_friendOf 124 = .ok (.ireturn, 1) := by decide +kernel
abbrev b_R_giftOf : ByteArray := prog_11_method_49_code
def y_R_giftOf : MethodName := ⟨"PassedOnAndBetterModel", "giftOf", "(II)I"⟩
theorem m_R_giftOf : MV y_R_giftOf b_R_giftOf 3 (some .int) 2 := ⟨mG 1255 (by decide +kernel) (by decide +kernel), mG 91 (by decide +kernel) (by decide +kernel), by decide +kernel⟩
theorem mi_R_giftOf : Cond.instanceMethod y_R_giftOf ∈ tbG := mG 1253 (by decide +kernel) (by decide +kernel)
theorem ms_R_giftOf : Cond.selects y_R_giftOf.cls y_R_giftOf y_R_giftOf ∈ tbG := mG 1254 (by decide +kernel) (by decide +kernel)
theorem d_R_giftOf_0 : decode b_R_giftOf 0 = .ok (.aload_n 0, 1) := by decide +kernel
theorem d_R_giftOf_1 : decode b_R_giftOf 1 = .ok (.iload_n 1, 1) := by decide +kernel
theorem d_R_giftOf_2 : decode b_R_giftOf 2 = .ok (.invokevirtual 142, 3) := by decide +kernel
theorem d_R_giftOf_5 : decode b_R_giftOf 5 = .ok (.ifCond .ne 9, 3) := by decide +kernel
theorem d_R_giftOf_8 : decode b_R_giftOf 8 = .ok (.aload_n 0, 1) := by decide +kernel
theorem d_R_giftOf_9 : decode b_R_giftOf 9 = .ok (.iconst (-1), 1) := by decide +kernel
theorem d_R_giftOf_10 : decode b_R_giftOf 10 = .ok (.invokevirtual 87, 3) := by decide +kernel
theorem d_R_giftOf_13 : decode b_R_giftOf 13 = .ok (.ireturn, 1) := by decide +kernel
theorem d_R_giftOf_14 : decode b_R_giftOf 14 = .ok (.iload_n 2, 1) := by decide +kernel
theorem d_R_giftOf_15 : decode b_R_giftOf 15 = .ok (.tableswitch 79 0 5 #[37, 44, 51, 58, 65, 72], 37) := by decide +kernel
theorem d_R_giftOf_52 : decode b_R_giftOf 52 = .ok (.aload_n 0, 1) := by decide +kernel
theorem d_R_giftOf_53 : decode b_R_giftOf 53 = .ok (.getfield 25, 3) := by decide +kernel
theorem d_R_giftOf_56 : decode b_R_giftOf 56 = .ok (.iload_n 1, 1) := by decide +kernel
theorem d_R_giftOf_57 : decode b_R_giftOf 57 = .ok (.iaload, 1) := by decide +kernel
theorem d_R_giftOf_58 : decode b_R_giftOf 58 = .ok (.ireturn, 1) := by decide +kernel
theorem d_R_giftOf_59 : decode b_R_giftOf 59 = .ok (.aload_n 0, 1) := by decide +kernel
theorem d_R_giftOf_60 : decode b_R_giftOf 60 = .ok (.getfield 28, 3) := by decide +kernel
theorem d_R_giftOf_63 : decode b_R_giftOf 63 = .ok (.iload_n 1, 1) := by decide +kernel
theorem d_R_giftOf_64 : decode b_R_giftOf 64 = .ok (.iaload, 1) := by decide +kernel
theorem d_R_giftOf_65 : decode b_R_giftOf 65 = .ok (.ireturn, 1) := by decide +kernel
theorem d_R_giftOf_66 : decode b_R_giftOf 66 = .ok (.aload_n 0, 1) := by decide +kernel
theorem d_R_giftOf_67 : decode b_R_giftOf 67 = .ok (.getfield 31, 3) := by decide +kernel
theorem d_R_giftOf_70 : decode b_R_giftOf 70 = .ok (.iload_n 1, 1) := by decide +kernel
theorem d_R_giftOf_71 : decode b_R_giftOf 71 = .ok (.iaload, 1) := by decide +kernel
theorem d_R_giftOf_72 : decode b_R_giftOf 72 = .ok (.ireturn, 1) := by decide +kernel
theorem d_R_giftOf_73 : decode b_R_giftOf 73 = .ok (.aload_n 0, 1) := by decide +kernel
theorem d_R_giftOf_74 : decode b_R_giftOf 74 = .ok (.getfield 34, 3) := by decide +kernel
theorem d_R_giftOf_77 : decode b_R_giftOf 77 = .ok (.iload_n 1, 1) := by decide +kernel
theorem d_R_giftOf_78 : decode b_R_giftOf 78 = .ok (.iaload, 1) := by decide +kernel
theorem d_R_giftOf_79 : decode b_R_giftOf 79 = .ok (.ireturn, 1) := by decide +kernel
theorem d_R_giftOf_80 : decode b_R_giftOf 80 = .ok (.aload_n 0, 1) := by decide +kernel
theorem d_R_giftOf_81 : decode b_R_giftOf 81 = .ok (.getfield 37, 3) := by decide +kernel
theorem d_R_giftOf_84 : decode b_R_giftOf 84 = .ok (.iload_n 1, 1) := by decide +kernel
theorem d_R_giftOf_85 : decode b_R_giftOf 85 = .ok (.iaload, 1) := by decide +kernel
theorem d_R_giftOf_86 : decode b_R_giftOf 86 = .ok (.ireturn, 1) := by decide +kernel
theorem d_R_giftOf_87 : decode b_R_giftOf 87 = .ok (.aload_n 0, 1) := by decide +kernel
theorem d_R_giftOf_88 : decode b_R_giftOf 88 = .ok (.getfield 40, 3) := by decide +kernel
theorem d_R_giftOf_91 : decode b_R_giftOf 91 = .ok (.iload_n 1, 1) := by decide +kernel
theorem d_R_giftOf_92 : decode b_R_giftOf 92 = .ok (.iaload, 1) := by decide +kernel
theorem d_R_giftOf_93 : decode b_R_giftOf 93 = .ok (.ireturn, 1) := by decide +kernel
theorem d_R_giftOf_94 : decode b_R_giftOf 94 = .ok (.aload_n 0, 1) := by decide +kernel
theorem d_R_giftOf_95 : decode b_R_giftOf 95 = .ok (.bipush (-2), 2) := by decide +kernel
theorem d_R_giftOf_97 : decode b_R_giftOf 97 = .ok (.invokevirtual 87, 3) := by decide +kernel
theorem d_R_giftOf_100 : decode b_R_giftOf 100 = .ok (.ireturn, 1) := by decide +kernel
abbrev b_R_friend : ByteArray := prog_11_method_50_code
def y_R_friend : MethodName := ⟨"PassedOnAndBetterModel", "friend", "(III)I"⟩
theorem m_R_friend : MV y_R_friend b_R_friend 5 (some .int) 3 := ⟨mG 1259 (by decide +kernel) (by decide +kernel), mG 91 (by decide +kernel) (by decide +kernel), by decide +kernel⟩
theorem mi_R_friend : Cond.instanceMethod y_R_friend ∈ tbG := mG 1257 (by decide +kernel) (by decide +kernel)
theorem ms_R_friend : Cond.selects y_R_friend.cls y_R_friend y_R_friend ∈ tbG := mG 1258 (by decide +kernel) (by decide +kernel)
theorem d_R_friend_0 : decode b_R_friend 0 = .ok (.iload_n 1, 1) := by decide +kernel
theorem d_R_friend_1 : decode b_R_friend 1 = .ok (.iconst 0, 1) := by decide +kernel
theorem d_R_friend_2 : decode b_R_friend 2 = .ok (.iconst 5, 1) := by decide +kernel
theorem d_R_friend_3 : decode b_R_friend 3 = .ok (.invokestatic 98, 3) := by decide +kernel
theorem d_R_friend_6 : decode b_R_friend 6 = .ok (.ifCond .ne 8, 3) := by decide +kernel
theorem d_R_friend_9 : decode b_R_friend 9 = .ok (.bipush (-2), 2) := by decide +kernel
theorem d_R_friend_11 : decode b_R_friend 11 = .ok (.goto 44, 3) := by decide +kernel
theorem d_R_friend_14 : decode b_R_friend 14 = .ok (.iload_n 2, 1) := by decide +kernel
theorem d_R_friend_15 : decode b_R_friend 15 = .ok (.ifCond .lt 8, 3) := by decide +kernel
theorem d_R_friend_18 : decode b_R_friend 18 = .ok (.iload_n 3, 1) := by decide +kernel
theorem d_R_friend_19 : decode b_R_friend 19 = .ok (.iconst 1, 1) := by decide +kernel
theorem d_R_friend_20 : decode b_R_friend 20 = .ok (.if_icmp .ge 8, 3) := by decide +kernel
theorem d_R_friend_23 : decode b_R_friend 23 = .ok (.bipush (-4), 2) := by decide +kernel
theorem d_R_friend_25 : decode b_R_friend 25 = .ok (.goto 30, 3) := by decide +kernel
theorem d_R_friend_28 : decode b_R_friend 28 = .ok (.iload_n 2, 1) := by decide +kernel
theorem d_R_friend_29 : decode b_R_friend 29 = .ok (.bipush 9, 2) := by decide +kernel
theorem d_R_friend_31 : decode b_R_friend 31 = .ok (.if_icmp .gt 18, 3) := by decide +kernel
theorem d_R_friend_34 : decode b_R_friend 34 = .ok (.iload_n 3, 1) := by decide +kernel
theorem d_R_friend_35 : decode b_R_friend 35 = .ok (.bipush 99, 2) := by decide +kernel
theorem d_R_friend_37 : decode b_R_friend 37 = .ok (.if_icmp .gt 12, 3) := by decide +kernel
theorem d_R_friend_40 : decode b_R_friend 40 = .ok (.aload_n 0, 1) := by decide +kernel
theorem d_R_friend_41 : decode b_R_friend 41 = .ok (.getfield 73, 3) := by decide +kernel
theorem d_R_friend_44 : decode b_R_friend 44 = .ok (.bipush 6, 2) := by decide +kernel
theorem d_R_friend_46 : decode b_R_friend 46 = .ok (.if_icmp .ne 8, 3) := by decide +kernel
theorem d_R_friend_49 : decode b_R_friend 49 = .ok (.bipush (-6), 2) := by decide +kernel
theorem d_R_friend_51 : decode b_R_friend 51 = .ok (.goto 4, 3) := by decide +kernel
theorem d_R_friend_54 : decode b_R_friend 54 = .ok (.iconst 0, 1) := by decide +kernel
theorem d_R_friend_55 : decode b_R_friend 55 = .ok (.istore 4, 2) := by decide +kernel
theorem d_R_friend_57 : decode b_R_friend 57 = .ok (.iload 4, 2) := by decide +kernel
theorem d_R_friend_59 : decode b_R_friend 59 = .ok (.ifCond .eq 10, 3) := by decide +kernel
theorem d_R_friend_62 : decode b_R_friend 62 = .ok (.aload_n 0, 1) := by decide +kernel
theorem d_R_friend_63 : decode b_R_friend 63 = .ok (.iload 4, 2) := by decide +kernel
theorem d_R_friend_65 : decode b_R_friend 65 = .ok (.invokevirtual 87, 3) := by decide +kernel
theorem d_R_friend_68 : decode b_R_friend 68 = .ok (.ireturn, 1) := by decide +kernel
theorem d_R_friend_69 : decode b_R_friend 69 = .ok (.aload_n 0, 1) := by decide +kernel
theorem d_R_friend_70 : decode b_R_friend 70 = .ok (.iconst 0, 1) := by decide +kernel
theorem d_R_friend_71 : decode b_R_friend 71 = .ok (.putfield 162, 3) := by decide +kernel
theorem d_R_friend_74 : decode b_R_friend 74 = .ok (.aload_n 0, 1) := by decide +kernel
theorem d_R_friend_75 : decode b_R_friend 75 = .ok (.iload_n 1, 1) := by decide +kernel
theorem d_R_friend_76 : decode b_R_friend 76 = .ok (.iload_n 2, 1) := by decide +kernel
theorem d_R_friend_77 : decode b_R_friend 77 = .ok (.iload_n 3, 1) := by decide +kernel
theorem d_R_friend_78 : decode b_R_friend 78 = .ok (.invokevirtual 112, 3) := by decide +kernel
theorem d_R_friend_81 : decode b_R_friend 81 = .ok (.aload_n 0, 1) := by decide +kernel
theorem d_R_friend_82 : decode b_R_friend 82 = .ok (.getfield 73, 3) := by decide +kernel
theorem d_R_friend_85 : decode b_R_friend 85 = .ok (.iconst 1, 1) := by decide +kernel
theorem d_R_friend_86 : decode b_R_friend 86 = .ok (.isub, 1) := by decide +kernel
theorem d_R_friend_87 : decode b_R_friend 87 = .ok (.ireturn, 1) := by decide +kernel
abbrev b_R_gift : ByteArray := prog_11_method_51_code
def y_R_gift : MethodName := ⟨"PassedOnAndBetterModel", "gift", "(III)I"⟩
theorem m_R_gift : MV y_R_gift b_R_gift 5 (some .int) 3 := ⟨mG 1263 (by decide +kernel) (by decide +kernel), mG 91 (by decide +kernel) (by decide +kernel), by decide +kernel⟩
theorem mi_R_gift : Cond.instanceMethod y_R_gift ∈ tbG := mG 1261 (by decide +kernel) (by decide +kernel)
theorem ms_R_gift : Cond.selects y_R_gift.cls y_R_gift y_R_gift ∈ tbG := mG 1262 (by decide +kernel) (by decide +kernel)
theorem d_R_gift_0 : decode b_R_gift 0 = .ok (.aload_n 0, 1) := by decide +kernel
theorem d_R_gift_1 : decode b_R_gift 1 = .ok (.iload_n 1, 1) := by decide +kernel
theorem d_R_gift_2 : decode b_R_gift 2 = .ok (.invokevirtual 76, 3) := by decide +kernel
theorem d_R_gift_5 : decode b_R_gift 5 = .ok (.ifCond .ne 7, 3) := by decide +kernel
theorem d_R_gift_8 : decode b_R_gift 8 = .ok (.iconst (-1), 1) := by decide +kernel
theorem d_R_gift_9 : decode b_R_gift 9 = .ok (.goto 43, 3) := by decide +kernel
theorem d_R_gift_12 : decode b_R_gift 12 = .ok (.iload_n 2, 1) := by decide +kernel
theorem d_R_gift_13 : decode b_R_gift 13 = .ok (.ifCond .lt 8, 3) := by decide +kernel
theorem d_R_gift_16 : decode b_R_gift 16 = .ok (.iload_n 3, 1) := by decide +kernel
theorem d_R_gift_17 : decode b_R_gift 17 = .ok (.iconst 1, 1) := by decide +kernel
theorem d_R_gift_18 : decode b_R_gift 18 = .ok (.if_icmp .ge 8, 3) := by decide +kernel
theorem d_R_gift_21 : decode b_R_gift 21 = .ok (.bipush (-4), 2) := by decide +kernel
theorem d_R_gift_23 : decode b_R_gift 23 = .ok (.goto 29, 3) := by decide +kernel
theorem d_R_gift_26 : decode b_R_gift 26 = .ok (.iload_n 2, 1) := by decide +kernel
theorem d_R_gift_27 : decode b_R_gift 27 = .ok (.bipush 99, 2) := by decide +kernel
theorem d_R_gift_29 : decode b_R_gift 29 = .ok (.if_icmp .gt 17, 3) := by decide +kernel
theorem d_R_gift_32 : decode b_R_gift 32 = .ok (.iload_n 3, 1) := by decide +kernel
theorem d_R_gift_33 : decode b_R_gift 33 = .ok (.bipush 99, 2) := by decide +kernel
theorem d_R_gift_35 : decode b_R_gift 35 = .ok (.if_icmp .gt 11, 3) := by decide +kernel
theorem d_R_gift_38 : decode b_R_gift 38 = .ok (.aload_n 0, 1) := by decide +kernel
theorem d_R_gift_39 : decode b_R_gift 39 = .ok (.getfield 67, 3) := by decide +kernel
theorem d_R_gift_42 : decode b_R_gift 42 = .ok (.iconst 4, 1) := by decide +kernel
theorem d_R_gift_43 : decode b_R_gift 43 = .ok (.if_icmp .ne 8, 3) := by decide +kernel
theorem d_R_gift_46 : decode b_R_gift 46 = .ok (.bipush (-6), 2) := by decide +kernel
theorem d_R_gift_48 : decode b_R_gift 48 = .ok (.goto 4, 3) := by decide +kernel
theorem d_R_gift_51 : decode b_R_gift 51 = .ok (.iconst 0, 1) := by decide +kernel
theorem d_R_gift_52 : decode b_R_gift 52 = .ok (.istore 4, 2) := by decide +kernel
theorem d_R_gift_54 : decode b_R_gift 54 = .ok (.iload 4, 2) := by decide +kernel
theorem d_R_gift_56 : decode b_R_gift 56 = .ok (.ifCond .eq 10, 3) := by decide +kernel
theorem d_R_gift_59 : decode b_R_gift 59 = .ok (.aload_n 0, 1) := by decide +kernel
theorem d_R_gift_60 : decode b_R_gift 60 = .ok (.iload 4, 2) := by decide +kernel
theorem d_R_gift_62 : decode b_R_gift 62 = .ok (.invokevirtual 87, 3) := by decide +kernel
theorem d_R_gift_65 : decode b_R_gift 65 = .ok (.ireturn, 1) := by decide +kernel
theorem d_R_gift_66 : decode b_R_gift 66 = .ok (.aload_n 0, 1) := by decide +kernel
theorem d_R_gift_67 : decode b_R_gift 67 = .ok (.iconst 0, 1) := by decide +kernel
theorem d_R_gift_68 : decode b_R_gift 68 = .ok (.putfield 162, 3) := by decide +kernel
theorem d_R_gift_71 : decode b_R_gift 71 = .ok (.aload_n 0, 1) := by decide +kernel
theorem d_R_gift_72 : decode b_R_gift 72 = .ok (.iload_n 2, 1) := by decide +kernel
theorem d_R_gift_73 : decode b_R_gift 73 = .ok (.iload_n 3, 1) := by decide +kernel
theorem d_R_gift_74 : decode b_R_gift 74 = .ok (.iload_n 1, 1) := by decide +kernel
theorem d_R_gift_75 : decode b_R_gift 75 = .ok (.invokevirtual 116, 3) := by decide +kernel
theorem d_R_gift_78 : decode b_R_gift 78 = .ok (.aload_n 0, 1) := by decide +kernel
theorem d_R_gift_79 : decode b_R_gift 79 = .ok (.getfield 67, 3) := by decide +kernel
theorem d_R_gift_82 : decode b_R_gift 82 = .ok (.iconst 1, 1) := by decide +kernel
theorem d_R_gift_83 : decode b_R_gift 83 = .ok (.isub, 1) := by decide +kernel
theorem d_R_gift_84 : decode b_R_gift 84 = .ok (.ireturn, 1) := by decide +kernel
abbrev b_R_keepsBack : ByteArray := prog_11_method_30_code
def y_R_keepsBack : MethodName := ⟨"PassedOnAndBetterModel", "keepsBack", "()V"⟩
theorem m_R_keepsBack : MV y_R_keepsBack b_R_keepsBack 2 none 0 := ⟨mG 1271 (by decide +kernel) (by decide +kernel), mG 91 (by decide +kernel) (by decide +kernel), by decide +kernel⟩
theorem mi_R_keepsBack : Cond.instanceMethod y_R_keepsBack ∈ tbG := mG 1270 (by decide +kernel) (by decide +kernel)
theorem ms_R_keepsBack : Cond.selects y_R_keepsBack.cls y_R_keepsBack y_R_keepsBack ∈ tbG := mG 59 (by decide +kernel) (by decide +kernel)
theorem d_R_keepsBack_0 : decode b_R_keepsBack 0 = .ok (.aload_n 0, 1) := by decide +kernel
theorem d_R_keepsBack_1 : decode b_R_keepsBack 1 = .ok (.getfield 162, 3) := by decide +kernel
theorem d_R_keepsBack_4 : decode b_R_keepsBack 4 = .ok (.bipush 8, 2) := by decide +kernel
theorem d_R_keepsBack_6 : decode b_R_keepsBack 6 = .ok (.if_icmp .ne 45, 3) := by decide +kernel
theorem d_R_keepsBack_9 : decode b_R_keepsBack 9 = .ok (.sipush 153, 3) := by decide +kernel
theorem d_R_keepsBack_12 : decode b_R_keepsBack 12 = .ok (.istore_n 1, 1) := by decide +kernel
theorem d_R_keepsBack_13 : decode b_R_keepsBack 13 = .ok (.iload_n 1, 1) := by decide +kernel
theorem d_R_keepsBack_14 : decode b_R_keepsBack 14 = .ok (.sipush 510, 3) := by decide +kernel
theorem d_R_keepsBack_17 : decode b_R_keepsBack 17 = .ok (.if_icmp .ge 24, 3) := by decide +kernel
theorem d_R_keepsBack_20 : decode b_R_keepsBack 20 = .ok (.aload_n 0, 1) := by decide +kernel
theorem d_R_keepsBack_21 : decode b_R_keepsBack 21 = .ok (.getfield 58, 3) := by decide +kernel
theorem d_R_keepsBack_24 : decode b_R_keepsBack 24 = .ok (.iload_n 1, 1) := by decide +kernel
theorem d_R_keepsBack_25 : decode b_R_keepsBack 25 = .ok (.aload_n 0, 1) := by decide +kernel
theorem d_R_keepsBack_26 : decode b_R_keepsBack 26 = .ok (.getfield 58, 3) := by decide +kernel
theorem d_R_keepsBack_29 : decode b_R_keepsBack 29 = .ok (.iload_n 1, 1) := by decide +kernel
theorem d_R_keepsBack_30 : decode b_R_keepsBack 30 = .ok (.bipush 51, 2) := by decide +kernel
theorem d_R_keepsBack_32 : decode b_R_keepsBack 32 = .ok (.iadd, 1) := by decide +kernel
theorem d_R_keepsBack_33 : decode b_R_keepsBack 33 = .ok (.iaload, 1) := by decide +kernel
theorem d_R_keepsBack_34 : decode b_R_keepsBack 34 = .ok (.iastore, 1) := by decide +kernel
theorem d_R_keepsBack_35 : decode b_R_keepsBack 35 = .ok (.iinc 1 1, 3) := by decide +kernel
theorem d_R_keepsBack_38 : decode b_R_keepsBack 38 = .ok (.goto (-25), 3) := by decide +kernel
theorem d_R_keepsBack_41 : decode b_R_keepsBack 41 = .ok (.aload_n 0, 1) := by decide +kernel
theorem d_R_keepsBack_42 : decode b_R_keepsBack 42 = .ok (.dup, 1) := by decide +kernel
theorem d_R_keepsBack_43 : decode b_R_keepsBack 43 = .ok (.getfield 162, 3) := by decide +kernel
theorem d_R_keepsBack_46 : decode b_R_keepsBack 46 = .ok (.iconst 1, 1) := by decide +kernel
theorem d_R_keepsBack_47 : decode b_R_keepsBack 47 = .ok (.isub, 1) := by decide +kernel
theorem d_R_keepsBack_48 : decode b_R_keepsBack 48 = .ok (.putfield 162, 3) := by decide +kernel
theorem d_R_keepsBack_51 : decode b_R_keepsBack 51 = .ok (.aload_n 0, 1) := by decide +kernel
theorem d_R_keepsBack_52 : decode b_R_keepsBack 52 = .ok (.iconst 3, 1) := by decide +kernel
theorem d_R_keepsBack_53 : decode b_R_keepsBack 53 = .ok (.aload_n 0, 1) := by decide +kernel
theorem d_R_keepsBack_54 : decode b_R_keepsBack 54 = .ok (.getfield 162, 3) := by decide +kernel
theorem d_R_keepsBack_57 : decode b_R_keepsBack 57 = .ok (.iadd, 1) := by decide +kernel
theorem d_R_keepsBack_58 : decode b_R_keepsBack 58 = .ok (.iconst 1, 1) := by decide +kernel
theorem d_R_keepsBack_59 : decode b_R_keepsBack 59 = .ok (.invokevirtual 155, 3) := by decide +kernel
theorem d_R_keepsBack_62 : decode b_R_keepsBack 62 = .ok (.aload_n 0, 1) := by decide +kernel
theorem d_R_keepsBack_63 : decode b_R_keepsBack 63 = .ok (.dup, 1) := by decide +kernel
theorem d_R_keepsBack_64 : decode b_R_keepsBack 64 = .ok (.getfield 162, 3) := by decide +kernel
theorem d_R_keepsBack_67 : decode b_R_keepsBack 67 = .ok (.iconst 1, 1) := by decide +kernel
theorem d_R_keepsBack_68 : decode b_R_keepsBack 68 = .ok (.iadd, 1) := by decide +kernel
theorem d_R_keepsBack_69 : decode b_R_keepsBack 69 = .ok (.putfield 162, 3) := by decide +kernel
theorem d_R_keepsBack_72 : decode b_R_keepsBack 72 = .ok (.return_, 1) := by decide +kernel
abbrev b_R_nexts : ByteArray := prog_11_method_52_code
def y_R_nexts : MethodName := ⟨"PassedOnAndBetterModel", "nexts", "(II)I"⟩
theorem m_R_nexts : MV y_R_nexts b_R_nexts 3 (some .int) 2 := ⟨mG 1267 (by decide +kernel) (by decide +kernel), mG 91 (by decide +kernel) (by decide +kernel), by decide +kernel⟩
theorem mi_R_nexts : Cond.instanceMethod y_R_nexts ∈ tbG := mG 1265 (by decide +kernel) (by decide +kernel)
theorem ms_R_nexts : Cond.selects y_R_nexts.cls y_R_nexts y_R_nexts ∈ tbG := mG 1266 (by decide +kernel) (by decide +kernel)
theorem d_R_nexts_0 : decode b_R_nexts 0 = .ok (.aload_n 0, 1) := by decide +kernel
theorem d_R_nexts_1 : decode b_R_nexts 1 = .ok (.iload_n 1, 1) := by decide +kernel
theorem d_R_nexts_2 : decode b_R_nexts 2 = .ok (.iload_n 2, 1) := by decide +kernel
theorem d_R_nexts_3 : decode b_R_nexts 3 = .ok (.invokevirtual 119, 3) := by decide +kernel
theorem d_R_nexts_6 : decode b_R_nexts 6 = .ok (.ifCond .ne 9, 3) := by decide +kernel
theorem d_R_nexts_9 : decode b_R_nexts 9 = .ok (.aload_n 0, 1) := by decide +kernel
theorem d_R_nexts_10 : decode b_R_nexts 10 = .ok (.iconst (-1), 1) := by decide +kernel
theorem d_R_nexts_11 : decode b_R_nexts 11 = .ok (.invokevirtual 87, 3) := by decide +kernel
theorem d_R_nexts_14 : decode b_R_nexts 14 = .ok (.ireturn, 1) := by decide +kernel
theorem d_R_nexts_15 : decode b_R_nexts 15 = .ok (.aload_n 0, 1) := by decide +kernel
theorem d_R_nexts_16 : decode b_R_nexts 16 = .ok (.invokevirtual 216, 3) := by decide +kernel
theorem d_R_nexts_19 : decode b_R_nexts 19 = .ok (.aload_n 0, 1) := by decide +kernel
theorem d_R_nexts_20 : decode b_R_nexts 20 = .ok (.iload_n 1, 1) := by decide +kernel
theorem d_R_nexts_21 : decode b_R_nexts 21 = .ok (.iload_n 2, 1) := by decide +kernel
theorem d_R_nexts_22 : decode b_R_nexts 22 = .ok (.invokevirtual 122, 3) := by decide +kernel
theorem d_R_nexts_25 : decode b_R_nexts 25 = .ok (.aload_n 0, 1) := by decide +kernel
theorem d_R_nexts_26 : decode b_R_nexts 26 = .ok (.getfield 22, 3) := by decide +kernel
theorem d_R_nexts_29 : decode b_R_nexts 29 = .ok (.iload_n 1, 1) := by decide +kernel
theorem d_R_nexts_30 : decode b_R_nexts 30 = .ok (.iaload, 1) := by decide +kernel
theorem d_R_nexts_31 : decode b_R_nexts 31 = .ok (.iload_n 2, 1) := by decide +kernel
theorem d_R_nexts_32 : decode b_R_nexts 32 = .ok (.if_icmp .ne 7, 3) := by decide +kernel
theorem d_R_nexts_35 : decode b_R_nexts 35 = .ok (.iconst 1, 1) := by decide +kernel
theorem d_R_nexts_36 : decode b_R_nexts 36 = .ok (.goto 4, 3) := by decide +kernel
theorem d_R_nexts_39 : decode b_R_nexts 39 = .ok (.iconst 0, 1) := by decide +kernel
theorem d_R_nexts_40 : decode b_R_nexts 40 = .ok (.ireturn, 1) := by decide +kernel
abbrev b_R_doors : ByteArray := prog_11_method_53_code
def y_R_doors : MethodName := ⟨"PassedOnAndBetterModel", "doors", "(II)I"⟩
theorem m_R_doors : MV y_R_doors b_R_doors 5 (some .int) 2 := ⟨mG 1275 (by decide +kernel) (by decide +kernel), mG 91 (by decide +kernel) (by decide +kernel), by decide +kernel⟩
theorem mi_R_doors : Cond.instanceMethod y_R_doors ∈ tbG := mG 1273 (by decide +kernel) (by decide +kernel)
theorem ms_R_doors : Cond.selects y_R_doors.cls y_R_doors y_R_doors ∈ tbG := mG 1274 (by decide +kernel) (by decide +kernel)
theorem d_R_doors_0 : decode b_R_doors 0 = .ok (.aload_n 0, 1) := by decide +kernel
theorem d_R_doors_1 : decode b_R_doors 1 = .ok (.iload_n 1, 1) := by decide +kernel
theorem d_R_doors_2 : decode b_R_doors 2 = .ok (.invokevirtual 76, 3) := by decide +kernel
theorem d_R_doors_5 : decode b_R_doors 5 = .ok (.ifCond .ne 7, 3) := by decide +kernel
theorem d_R_doors_8 : decode b_R_doors 8 = .ok (.iconst (-1), 1) := by decide +kernel
theorem d_R_doors_9 : decode b_R_doors 9 = .ok (.goto 10, 3) := by decide +kernel
theorem d_R_doors_12 : decode b_R_doors 12 = .ok (.iload_n 2, 1) := by decide +kernel
theorem d_R_doors_13 : decode b_R_doors 13 = .ok (.iconst 1, 1) := by decide +kernel
theorem d_R_doors_14 : decode b_R_doors 14 = .ok (.bipush 99, 2) := by decide +kernel
theorem d_R_doors_16 : decode b_R_doors 16 = .ok (.invokestatic 80, 3) := by decide +kernel
theorem d_R_doors_19 : decode b_R_doors 19 = .ok (.istore_n 3, 1) := by decide +kernel
theorem d_R_doors_20 : decode b_R_doors 20 = .ok (.iload_n 3, 1) := by decide +kernel
theorem d_R_doors_21 : decode b_R_doors 21 = .ok (.ifCond .eq 9, 3) := by decide +kernel
theorem d_R_doors_24 : decode b_R_doors 24 = .ok (.aload_n 0, 1) := by decide +kernel
theorem d_R_doors_25 : decode b_R_doors 25 = .ok (.iload_n 3, 1) := by decide +kernel
theorem d_R_doors_26 : decode b_R_doors 26 = .ok (.invokevirtual 87, 3) := by decide +kernel
theorem d_R_doors_29 : decode b_R_doors 29 = .ok (.ireturn, 1) := by decide +kernel
theorem d_R_doors_30 : decode b_R_doors 30 = .ok (.aload_n 0, 1) := by decide +kernel
theorem d_R_doors_31 : decode b_R_doors 31 = .ok (.invokevirtual 216, 3) := by decide +kernel
theorem d_R_doors_34 : decode b_R_doors 34 = .ok (.aload_n 0, 1) := by decide +kernel
theorem d_R_doors_35 : decode b_R_doors 35 = .ok (.getfield 19, 3) := by decide +kernel
theorem d_R_doors_38 : decode b_R_doors 38 = .ok (.iload_n 1, 1) := by decide +kernel
theorem d_R_doors_39 : decode b_R_doors 39 = .ok (.iaload, 1) := by decide +kernel
theorem d_R_doors_40 : decode b_R_doors 40 = .ok (.istore 4, 2) := by decide +kernel
theorem d_R_doors_42 : decode b_R_doors 42 = .ok (.aload_n 0, 1) := by decide +kernel
theorem d_R_doors_43 : decode b_R_doors 43 = .ok (.getfield 19, 3) := by decide +kernel
theorem d_R_doors_46 : decode b_R_doors 46 = .ok (.iload_n 1, 1) := by decide +kernel
theorem d_R_doors_47 : decode b_R_doors 47 = .ok (.iload_n 2, 1) := by decide +kernel
theorem d_R_doors_48 : decode b_R_doors 48 = .ok (.iastore, 1) := by decide +kernel
theorem d_R_doors_49 : decode b_R_doors 49 = .ok (.iload 4, 2) := by decide +kernel
theorem d_R_doors_51 : decode b_R_doors 51 = .ok (.ireturn, 1) := by decide +kernel
abbrev b_R_hands : ByteArray := prog_11_method_54_code
def y_R_hands : MethodName := ⟨"PassedOnAndBetterModel", "hands", "(II)I"⟩
theorem m_R_hands : MV y_R_hands b_R_hands 4 (some .int) 2 := ⟨mG 1279 (by decide +kernel) (by decide +kernel), mG 91 (by decide +kernel) (by decide +kernel), by decide +kernel⟩
theorem mi_R_hands : Cond.instanceMethod y_R_hands ∈ tbG := mG 1277 (by decide +kernel) (by decide +kernel)
theorem ms_R_hands : Cond.selects y_R_hands.cls y_R_hands y_R_hands ∈ tbG := mG 1278 (by decide +kernel) (by decide +kernel)
theorem d_R_hands_0 : decode b_R_hands 0 = .ok (.aload_n 0, 1) := by decide +kernel
theorem d_R_hands_1 : decode b_R_hands 1 = .ok (.iload_n 1, 1) := by decide +kernel
theorem d_R_hands_2 : decode b_R_hands 2 = .ok (.invokevirtual 142, 3) := by decide +kernel
theorem d_R_hands_5 : decode b_R_hands 5 = .ok (.ifCond .eq 11, 3) := by decide +kernel
theorem d_R_hands_8 : decode b_R_hands 8 = .ok (.aload_n 0, 1) := by decide +kernel
theorem d_R_hands_9 : decode b_R_hands 9 = .ok (.iload_n 2, 1) := by decide +kernel
theorem d_R_hands_10 : decode b_R_hands 10 = .ok (.invokevirtual 76, 3) := by decide +kernel
theorem d_R_hands_13 : decode b_R_hands 13 = .ok (.ifCond .ne 9, 3) := by decide +kernel
theorem d_R_hands_16 : decode b_R_hands 16 = .ok (.aload_n 0, 1) := by decide +kernel
theorem d_R_hands_17 : decode b_R_hands 17 = .ok (.iconst (-1), 1) := by decide +kernel
theorem d_R_hands_18 : decode b_R_hands 18 = .ok (.invokevirtual 87, 3) := by decide +kernel
theorem d_R_hands_21 : decode b_R_hands 21 = .ok (.ireturn, 1) := by decide +kernel
theorem d_R_hands_22 : decode b_R_hands 22 = .ok (.aload_n 0, 1) := by decide +kernel
theorem d_R_hands_23 : decode b_R_hands 23 = .ok (.invokevirtual 216, 3) := by decide +kernel
theorem d_R_hands_26 : decode b_R_hands 26 = .ok (.aload_n 0, 1) := by decide +kernel
theorem d_R_hands_27 : decode b_R_hands 27 = .ok (.getfield 31, 3) := by decide +kernel
theorem d_R_hands_30 : decode b_R_hands 30 = .ok (.iload_n 1, 1) := by decide +kernel
theorem d_R_hands_31 : decode b_R_hands 31 = .ok (.iaload, 1) := by decide +kernel
theorem d_R_hands_32 : decode b_R_hands 32 = .ok (.istore_n 3, 1) := by decide +kernel
theorem d_R_hands_33 : decode b_R_hands 33 = .ok (.aload_n 0, 1) := by decide +kernel
theorem d_R_hands_34 : decode b_R_hands 34 = .ok (.iload_n 1, 1) := by decide +kernel
theorem d_R_hands_35 : decode b_R_hands 35 = .ok (.iload_n 2, 1) := by decide +kernel
theorem d_R_hands_36 : decode b_R_hands 36 = .ok (.invokevirtual 145, 3) := by decide +kernel
theorem d_R_hands_39 : decode b_R_hands 39 = .ok (.iload_n 3, 1) := by decide +kernel
theorem d_R_hands_40 : decode b_R_hands 40 = .ok (.ireturn, 1) := by decide +kernel
abbrev b_R_sum : ByteArray := prog_11_method_47_code
def y_R_sum : MethodName := ⟨"PassedOnAndBetterModel", "sum", "([II)I"⟩
theorem m_R_sum : MV y_R_sum b_R_sum 4 (some .int) 2 := ⟨mG 1286 (by decide +kernel) (by decide +kernel), mG 91 (by decide +kernel) (by decide +kernel), by decide +kernel⟩
theorem mi_R_sum : Cond.static y_R_sum ∈ tbG := mG 1285 (by decide +kernel) (by decide +kernel)
theorem d_R_sum_0 : decode b_R_sum 0 = .ok (.iconst 0, 1) := by decide +kernel
theorem d_R_sum_1 : decode b_R_sum 1 = .ok (.istore_n 2, 1) := by decide +kernel
theorem d_R_sum_2 : decode b_R_sum 2 = .ok (.iconst 0, 1) := by decide +kernel
theorem d_R_sum_3 : decode b_R_sum 3 = .ok (.istore_n 3, 1) := by decide +kernel
theorem d_R_sum_4 : decode b_R_sum 4 = .ok (.iload_n 3, 1) := by decide +kernel
theorem d_R_sum_5 : decode b_R_sum 5 = .ok (.iload_n 1, 1) := by decide +kernel
theorem d_R_sum_6 : decode b_R_sum 6 = .ok (.if_icmp .ge 15, 3) := by decide +kernel
theorem d_R_sum_9 : decode b_R_sum 9 = .ok (.iload_n 2, 1) := by decide +kernel
theorem d_R_sum_10 : decode b_R_sum 10 = .ok (.aload_n 0, 1) := by decide +kernel
theorem d_R_sum_11 : decode b_R_sum 11 = .ok (.iload_n 3, 1) := by decide +kernel
theorem d_R_sum_12 : decode b_R_sum 12 = .ok (.iaload, 1) := by decide +kernel
theorem d_R_sum_13 : decode b_R_sum 13 = .ok (.iadd, 1) := by decide +kernel
theorem d_R_sum_14 : decode b_R_sum 14 = .ok (.istore_n 2, 1) := by decide +kernel
theorem d_R_sum_15 : decode b_R_sum 15 = .ok (.iinc 3 1, 3) := by decide +kernel
theorem d_R_sum_18 : decode b_R_sum 18 = .ok (.goto (-14), 3) := by decide +kernel
theorem d_R_sum_21 : decode b_R_sum 21 = .ok (.iload_n 2, 1) := by decide +kernel
theorem d_R_sum_22 : decode b_R_sum 22 = .ok (.ireturn, 1) := by decide +kernel
abbrev b_R_months : ByteArray := prog_11_method_55_code
def y_R_months : MethodName := ⟨"PassedOnAndBetterModel", "months", "(I)I"⟩
theorem m_R_months : MV y_R_months b_R_months 3 (some .int) 1 := ⟨mG 1283 (by decide +kernel) (by decide +kernel), mG 91 (by decide +kernel) (by decide +kernel), by decide +kernel⟩
theorem mi_R_months : Cond.instanceMethod y_R_months ∈ tbG := mG 1281 (by decide +kernel) (by decide +kernel)
theorem ms_R_months : Cond.selects y_R_months.cls y_R_months y_R_months ∈ tbG := mG 1282 (by decide +kernel) (by decide +kernel)
theorem d_R_months_0 : decode b_R_months 0 = .ok (.iload_n 1, 1) := by decide +kernel
theorem d_R_months_1 : decode b_R_months 1 = .ok (.iconst 1, 1) := by decide +kernel
theorem d_R_months_2 : decode b_R_months 2 = .ok (.bipush 60, 2) := by decide +kernel
theorem d_R_months_4 : decode b_R_months 4 = .ok (.invokestatic 80, 3) := by decide +kernel
theorem d_R_months_7 : decode b_R_months 7 = .ok (.istore_n 2, 1) := by decide +kernel
theorem d_R_months_8 : decode b_R_months 8 = .ok (.iload_n 2, 1) := by decide +kernel
theorem d_R_months_9 : decode b_R_months 9 = .ok (.ifCond .ne 18, 3) := by decide +kernel
theorem d_R_months_12 : decode b_R_months 12 = .ok (.aload_n 0, 1) := by decide +kernel
theorem d_R_months_13 : decode b_R_months 13 = .ok (.getfield 126, 3) := by decide +kernel
theorem d_R_months_16 : decode b_R_months 16 = .ok (.iload_n 1, 1) := by decide +kernel
theorem d_R_months_17 : decode b_R_months 17 = .ok (.iadd, 1) := by decide +kernel
theorem d_R_months_18 : decode b_R_months 18 = .ok (.sipush 999, 3) := by decide +kernel
theorem d_R_months_21 : decode b_R_months 21 = .ok (.if_icmp .le 6, 3) := by decide +kernel
theorem d_R_months_24 : decode b_R_months 24 = .ok (.bipush (-6), 2) := by decide +kernel
theorem d_R_months_26 : decode b_R_months 26 = .ok (.istore_n 2, 1) := by decide +kernel
theorem d_R_months_27 : decode b_R_months 27 = .ok (.iload_n 2, 1) := by decide +kernel
theorem d_R_months_28 : decode b_R_months 28 = .ok (.ifCond .eq 9, 3) := by decide +kernel
theorem d_R_months_31 : decode b_R_months 31 = .ok (.aload_n 0, 1) := by decide +kernel
theorem d_R_months_32 : decode b_R_months 32 = .ok (.iload_n 2, 1) := by decide +kernel
theorem d_R_months_33 : decode b_R_months 33 = .ok (.invokevirtual 87, 3) := by decide +kernel
theorem d_R_months_36 : decode b_R_months 36 = .ok (.ireturn, 1) := by decide +kernel
theorem d_R_months_37 : decode b_R_months 37 = .ok (.aload_n 0, 1) := by decide +kernel
theorem d_R_months_38 : decode b_R_months 38 = .ok (.invokevirtual 216, 3) := by decide +kernel
theorem d_R_months_41 : decode b_R_months 41 = .ok (.aload_n 0, 1) := by decide +kernel
theorem d_R_months_42 : decode b_R_months 42 = .ok (.iload_n 1, 1) := by decide +kernel
theorem d_R_months_43 : decode b_R_months 43 = .ok (.invokevirtual 129, 3) := by decide +kernel
theorem d_R_months_46 : decode b_R_months 46 = .ok (.aload_n 0, 1) := by decide +kernel
theorem d_R_months_47 : decode b_R_months 47 = .ok (.getfield 25, 3) := by decide +kernel
theorem d_R_months_50 : decode b_R_months 50 = .ok (.aload_n 0, 1) := by decide +kernel
theorem d_R_months_51 : decode b_R_months 51 = .ok (.getfield 67, 3) := by decide +kernel
theorem d_R_months_54 : decode b_R_months 54 = .ok (.invokestatic 219, 3) := by decide +kernel
theorem d_R_months_57 : decode b_R_months 57 = .ok (.ireturn, 1) := by decide +kernel
abbrev b_R_notMonths : ByteArray := prog_11_method_56_code
def y_R_notMonths : MethodName := ⟨"PassedOnAndBetterModel", "notMonths", "(I)I"⟩
theorem m_R_notMonths : MV y_R_notMonths b_R_notMonths 1 (some .int) 1 := ⟨mG 1293 (by decide +kernel) (by decide +kernel), mG 91 (by decide +kernel) (by decide +kernel), by decide +kernel⟩
theorem mi_R_notMonths : Cond.static y_R_notMonths ∈ tbG := mG 1292 (by decide +kernel) (by decide +kernel)
theorem d_R_notMonths_0 : decode b_R_notMonths 0 = .ok (.iload_n 0, 1) := by decide +kernel
theorem d_R_notMonths_1 : decode b_R_notMonths 1 = .ok (.iconst 0, 1) := by decide +kernel
theorem d_R_notMonths_2 : decode b_R_notMonths 2 = .ok (.bipush 60, 2) := by decide +kernel
theorem d_R_notMonths_4 : decode b_R_notMonths 4 = .ok (.invokestatic 80, 3) := by decide +kernel
theorem d_R_notMonths_7 : decode b_R_notMonths 7 = .ok (.ireturn, 1) := by decide +kernel
abbrev b_R_thinks : ByteArray := prog_11_method_26_code
def y_R_thinks : MethodName := ⟨"PassedOnAndBetterModel", "thinks", "()V"⟩
theorem m_R_thinks : MV y_R_thinks b_R_thinks 2 none 0 := ⟨mG 1297 (by decide +kernel) (by decide +kernel), mG 91 (by decide +kernel) (by decide +kernel), by decide +kernel⟩
theorem mi_R_thinks : Cond.instanceMethod y_R_thinks ∈ tbG := mG 1296 (by decide +kernel) (by decide +kernel)
theorem ms_R_thinks : Cond.selects y_R_thinks.cls y_R_thinks y_R_thinks ∈ tbG := mG 60 (by decide +kernel) (by decide +kernel)
theorem d_R_thinks_0 : decode b_R_thinks 0 = .ok (.aload_n 0, 1) := by decide +kernel
theorem d_R_thinks_1 : decode b_R_thinks 1 = .ok (.iconst 2, 1) := by decide +kernel
theorem d_R_thinks_2 : decode b_R_thinks 2 = .ok (.iconst 1, 1) := by decide +kernel
theorem d_R_thinks_3 : decode b_R_thinks 3 = .ok (.invokevirtual 155, 3) := by decide +kernel
theorem d_R_thinks_6 : decode b_R_thinks 6 = .ok (.iconst 0, 1) := by decide +kernel
theorem d_R_thinks_7 : decode b_R_thinks 7 = .ok (.istore_n 1, 1) := by decide +kernel
theorem d_R_thinks_8 : decode b_R_thinks 8 = .ok (.iload_n 1, 1) := by decide +kernel
theorem d_R_thinks_9 : decode b_R_thinks 9 = .ok (.bipush 6, 2) := by decide +kernel
theorem d_R_thinks_11 : decode b_R_thinks 11 = .ok (.if_icmp .ge 16, 3) := by decide +kernel
theorem d_R_thinks_14 : decode b_R_thinks 14 = .ok (.aload_n 0, 1) := by decide +kernel
theorem d_R_thinks_15 : decode b_R_thinks 15 = .ok (.getfield 43, 3) := by decide +kernel
theorem d_R_thinks_18 : decode b_R_thinks 18 = .ok (.iload_n 1, 1) := by decide +kernel
theorem d_R_thinks_19 : decode b_R_thinks 19 = .ok (.iconst 0, 1) := by decide +kernel
theorem d_R_thinks_20 : decode b_R_thinks 20 = .ok (.iastore, 1) := by decide +kernel
theorem d_R_thinks_21 : decode b_R_thinks 21 = .ok (.iinc 1 1, 3) := by decide +kernel
theorem d_R_thinks_24 : decode b_R_thinks 24 = .ok (.goto (-16), 3) := by decide +kernel
theorem d_R_thinks_27 : decode b_R_thinks 27 = .ok (.return_, 1) := by decide +kernel
abbrev b_R_forgets : ByteArray := prog_11_method_27_code
def y_R_forgets : MethodName := ⟨"PassedOnAndBetterModel", "forgets", "()V"⟩
theorem m_R_forgets : MV y_R_forgets b_R_forgets 1 none 0 := ⟨mG 1301 (by decide +kernel) (by decide +kernel), mG 91 (by decide +kernel) (by decide +kernel), by decide +kernel⟩
theorem mi_R_forgets : Cond.instanceMethod y_R_forgets ∈ tbG := mG 1300 (by decide +kernel) (by decide +kernel)
theorem ms_R_forgets : Cond.selects y_R_forgets.cls y_R_forgets y_R_forgets ∈ tbG := mG 61 (by decide +kernel) (by decide +kernel)
theorem d_R_forgets_0 : decode b_R_forgets 0 = .ok (.aload_n 0, 1) := by decide +kernel
theorem d_R_forgets_1 : decode b_R_forgets 1 = .ok (.iconst 2, 1) := by decide +kernel
theorem d_R_forgets_2 : decode b_R_forgets 2 = .ok (.iconst 0, 1) := by decide +kernel
theorem d_R_forgets_3 : decode b_R_forgets 3 = .ok (.invokevirtual 155, 3) := by decide +kernel
theorem d_R_forgets_6 : decode b_R_forgets 6 = .ok (.return_, 1) := by decide +kernel
abbrev b_R_behind : ByteArray := prog_11_method_57_code
def y_R_behind : MethodName := ⟨"PassedOnAndBetterModel", "behind", "(III)I"⟩
theorem m_R_behind : MV y_R_behind b_R_behind 6 (some .int) 3 := ⟨mG 1290 (by decide +kernel) (by decide +kernel), mG 91 (by decide +kernel) (by decide +kernel), by decide +kernel⟩
theorem mi_R_behind : Cond.instanceMethod y_R_behind ∈ tbG := mG 1288 (by decide +kernel) (by decide +kernel)
theorem ms_R_behind : Cond.selects y_R_behind.cls y_R_behind y_R_behind ∈ tbG := mG 1289 (by decide +kernel) (by decide +kernel)
theorem d_R_behind_0 : decode b_R_behind 0 = .ok (.aload_n 0, 1) := by decide +kernel
theorem d_R_behind_1 : decode b_R_behind 1 = .ok (.iload_n 1, 1) := by decide +kernel
theorem d_R_behind_2 : decode b_R_behind 2 = .ok (.invokevirtual 142, 3) := by decide +kernel
theorem d_R_behind_5 : decode b_R_behind 5 = .ok (.ifCond .ne 7, 3) := by decide +kernel
theorem d_R_behind_8 : decode b_R_behind 8 = .ok (.iconst (-1), 1) := by decide +kernel
theorem d_R_behind_9 : decode b_R_behind 9 = .ok (.goto 7, 3) := by decide +kernel
theorem d_R_behind_12 : decode b_R_behind 12 = .ok (.iload_n 2, 1) := by decide +kernel
theorem d_R_behind_13 : decode b_R_behind 13 = .ok (.invokestatic 223, 3) := by decide +kernel
theorem d_R_behind_16 : decode b_R_behind 16 = .ok (.istore 4, 2) := by decide +kernel
theorem d_R_behind_18 : decode b_R_behind 18 = .ok (.iload 4, 2) := by decide +kernel
theorem d_R_behind_20 : decode b_R_behind 20 = .ok (.ifCond .ne 16, 3) := by decide +kernel
theorem d_R_behind_23 : decode b_R_behind 23 = .ok (.iload_n 3, 1) := by decide +kernel
theorem d_R_behind_24 : decode b_R_behind 24 = .ok (.iconst 0, 1) := by decide +kernel
theorem d_R_behind_25 : decode b_R_behind 25 = .ok (.iconst 3, 1) := by decide +kernel
theorem d_R_behind_26 : decode b_R_behind 26 = .ok (.invokestatic 98, 3) := by decide +kernel
theorem d_R_behind_29 : decode b_R_behind 29 = .ok (.ifCond .ne 7, 3) := by decide +kernel
theorem d_R_behind_32 : decode b_R_behind 32 = .ok (.bipush (-2), 2) := by decide +kernel
theorem d_R_behind_34 : decode b_R_behind 34 = .ok (.istore 4, 2) := by decide +kernel
theorem d_R_behind_36 : decode b_R_behind 36 = .ok (.iload 4, 2) := by decide +kernel
theorem d_R_behind_38 : decode b_R_behind 38 = .ok (.ifCond .eq 10, 3) := by decide +kernel
theorem d_R_behind_41 : decode b_R_behind 41 = .ok (.aload_n 0, 1) := by decide +kernel
theorem d_R_behind_42 : decode b_R_behind 42 = .ok (.iload 4, 2) := by decide +kernel
theorem d_R_behind_44 : decode b_R_behind 44 = .ok (.invokevirtual 87, 3) := by decide +kernel
theorem d_R_behind_47 : decode b_R_behind 47 = .ok (.ireturn, 1) := by decide +kernel
theorem d_R_behind_48 : decode b_R_behind 48 = .ok (.aload_n 0, 1) := by decide +kernel
theorem d_R_behind_49 : decode b_R_behind 49 = .ok (.invokevirtual 226, 3) := by decide +kernel
theorem d_R_behind_52 : decode b_R_behind 52 = .ok (.aload_n 0, 1) := by decide +kernel
theorem d_R_behind_53 : decode b_R_behind 53 = .ok (.iload_n 2, 1) := by decide +kernel
theorem d_R_behind_54 : decode b_R_behind 54 = .ok (.invokevirtual 129, 3) := by decide +kernel
theorem d_R_behind_57 : decode b_R_behind 57 = .ok (.iload_n 3, 1) := by decide +kernel
theorem d_R_behind_58 : decode b_R_behind 58 = .ok (.ifCond .ne 12, 3) := by decide +kernel
theorem d_R_behind_61 : decode b_R_behind 61 = .ok (.aload_n 0, 1) := by decide +kernel
theorem d_R_behind_62 : decode b_R_behind 62 = .ok (.getfield 31, 3) := by decide +kernel
theorem d_R_behind_65 : decode b_R_behind 65 = .ok (.iload_n 1, 1) := by decide +kernel
theorem d_R_behind_66 : decode b_R_behind 66 = .ok (.iaload, 1) := by decide +kernel
theorem d_R_behind_67 : decode b_R_behind 67 = .ok (.goto 37, 3) := by decide +kernel
theorem d_R_behind_70 : decode b_R_behind 70 = .ok (.iload_n 3, 1) := by decide +kernel
theorem d_R_behind_71 : decode b_R_behind 71 = .ok (.iconst 1, 1) := by decide +kernel
theorem d_R_behind_72 : decode b_R_behind 72 = .ok (.if_icmp .ne 12, 3) := by decide +kernel
theorem d_R_behind_75 : decode b_R_behind 75 = .ok (.aload_n 0, 1) := by decide +kernel
theorem d_R_behind_76 : decode b_R_behind 76 = .ok (.getfield 25, 3) := by decide +kernel
theorem d_R_behind_79 : decode b_R_behind 79 = .ok (.iload_n 1, 1) := by decide +kernel
theorem d_R_behind_80 : decode b_R_behind 80 = .ok (.iaload, 1) := by decide +kernel
theorem d_R_behind_81 : decode b_R_behind 81 = .ok (.goto 23, 3) := by decide +kernel
theorem d_R_behind_84 : decode b_R_behind 84 = .ok (.iload_n 3, 1) := by decide +kernel
theorem d_R_behind_85 : decode b_R_behind 85 = .ok (.iconst 2, 1) := by decide +kernel
theorem d_R_behind_86 : decode b_R_behind 86 = .ok (.if_icmp .ne 12, 3) := by decide +kernel
theorem d_R_behind_89 : decode b_R_behind 89 = .ok (.aload_n 0, 1) := by decide +kernel
theorem d_R_behind_90 : decode b_R_behind 90 = .ok (.getfield 28, 3) := by decide +kernel
theorem d_R_behind_93 : decode b_R_behind 93 = .ok (.iload_n 1, 1) := by decide +kernel
theorem d_R_behind_94 : decode b_R_behind 94 = .ok (.iaload, 1) := by decide +kernel
theorem d_R_behind_95 : decode b_R_behind 95 = .ok (.goto 9, 3) := by decide +kernel
theorem d_R_behind_98 : decode b_R_behind 98 = .ok (.aload_n 0, 1) := by decide +kernel
theorem d_R_behind_99 : decode b_R_behind 99 = .ok (.getfield 40, 3) := by decide +kernel
theorem d_R_behind_102 : decode b_R_behind 102 = .ok (.iload_n 1, 1) := by decide +kernel
theorem d_R_behind_103 : decode b_R_behind 103 = .ok (.iaload, 1) := by decide +kernel
theorem d_R_behind_104 : decode b_R_behind 104 = .ok (.istore 5, 2) := by decide +kernel
theorem d_R_behind_106 : decode b_R_behind 106 = .ok (.aload_n 0, 1) := by decide +kernel
theorem d_R_behind_107 : decode b_R_behind 107 = .ok (.invokevirtual 229, 3) := by decide +kernel
theorem d_R_behind_110 : decode b_R_behind 110 = .ok (.iload 5, 2) := by decide +kernel
theorem d_R_behind_112 : decode b_R_behind 112 = .ok (.ireturn, 1) := by decide +kernel
abbrev b_R_then : ByteArray := prog_11_method_58_code
def y_R_then : MethodName := ⟨"PassedOnAndBetterModel", "then", "(II)I"⟩
theorem m_R_then : MV y_R_then b_R_then 5 (some .int) 2 := ⟨mG 1305 (by decide +kernel) (by decide +kernel), mG 91 (by decide +kernel) (by decide +kernel), by decide +kernel⟩
theorem mi_R_then : Cond.instanceMethod y_R_then ∈ tbG := mG 1303 (by decide +kernel) (by decide +kernel)
theorem ms_R_then : Cond.selects y_R_then.cls y_R_then y_R_then ∈ tbG := mG 1304 (by decide +kernel) (by decide +kernel)
theorem d_R_then_0 : decode b_R_then 0 = .ok (.iload_n 1, 1) := by decide +kernel
theorem d_R_then_1 : decode b_R_then 1 = .ok (.iconst (-1), 1) := by decide +kernel
theorem d_R_then_2 : decode b_R_then 2 = .ok (.if_icmp .eq 15, 3) := by decide +kernel
theorem d_R_then_5 : decode b_R_then 5 = .ok (.aload_n 0, 1) := by decide +kernel
theorem d_R_then_6 : decode b_R_then 6 = .ok (.iload_n 1, 1) := by decide +kernel
theorem d_R_then_7 : decode b_R_then 7 = .ok (.invokevirtual 76, 3) := by decide +kernel
theorem d_R_then_10 : decode b_R_then 10 = .ok (.ifCond .ne 7, 3) := by decide +kernel
theorem d_R_then_13 : decode b_R_then 13 = .ok (.iconst (-1), 1) := by decide +kernel
theorem d_R_then_14 : decode b_R_then 14 = .ok (.goto 7, 3) := by decide +kernel
theorem d_R_then_17 : decode b_R_then 17 = .ok (.iload_n 2, 1) := by decide +kernel
theorem d_R_then_18 : decode b_R_then 18 = .ok (.invokestatic 223, 3) := by decide +kernel
theorem d_R_then_21 : decode b_R_then 21 = .ok (.istore_n 3, 1) := by decide +kernel
theorem d_R_then_22 : decode b_R_then 22 = .ok (.iload_n 3, 1) := by decide +kernel
theorem d_R_then_23 : decode b_R_then 23 = .ok (.ifCond .eq 9, 3) := by decide +kernel
theorem d_R_then_26 : decode b_R_then 26 = .ok (.aload_n 0, 1) := by decide +kernel
theorem d_R_then_27 : decode b_R_then 27 = .ok (.iload_n 3, 1) := by decide +kernel
theorem d_R_then_28 : decode b_R_then 28 = .ok (.invokevirtual 87, 3) := by decide +kernel
theorem d_R_then_31 : decode b_R_then 31 = .ok (.ireturn, 1) := by decide +kernel
theorem d_R_then_32 : decode b_R_then 32 = .ok (.aload_n 0, 1) := by decide +kernel
theorem d_R_then_33 : decode b_R_then 33 = .ok (.invokevirtual 226, 3) := by decide +kernel
theorem d_R_then_36 : decode b_R_then 36 = .ok (.aload_n 0, 1) := by decide +kernel
theorem d_R_then_37 : decode b_R_then 37 = .ok (.iload_n 2, 1) := by decide +kernel
theorem d_R_then_38 : decode b_R_then 38 = .ok (.invokevirtual 129, 3) := by decide +kernel
theorem d_R_then_41 : decode b_R_then 41 = .ok (.iload_n 1, 1) := by decide +kernel
theorem d_R_then_42 : decode b_R_then 42 = .ok (.ifCond .ge 17, 3) := by decide +kernel
theorem d_R_then_45 : decode b_R_then 45 = .ok (.aload_n 0, 1) := by decide +kernel
theorem d_R_then_46 : decode b_R_then 46 = .ok (.getfield 25, 3) := by decide +kernel
theorem d_R_then_49 : decode b_R_then 49 = .ok (.aload_n 0, 1) := by decide +kernel
theorem d_R_then_50 : decode b_R_then 50 = .ok (.getfield 67, 3) := by decide +kernel
theorem d_R_then_53 : decode b_R_then 53 = .ok (.invokestatic 219, 3) := by decide +kernel
theorem d_R_then_56 : decode b_R_then 56 = .ok (.goto 8, 3) := by decide +kernel
theorem d_R_then_59 : decode b_R_then 59 = .ok (.aload_n 0, 1) := by decide +kernel
theorem d_R_then_60 : decode b_R_then 60 = .ok (.iload_n 1, 1) := by decide +kernel
theorem d_R_then_61 : decode b_R_then 61 = .ok (.invokevirtual 213, 3) := by decide +kernel
theorem d_R_then_64 : decode b_R_then 64 = .ok (.istore 4, 2) := by decide +kernel
theorem d_R_then_66 : decode b_R_then 66 = .ok (.aload_n 0, 1) := by decide +kernel
theorem d_R_then_67 : decode b_R_then 67 = .ok (.invokevirtual 229, 3) := by decide +kernel
theorem d_R_then_70 : decode b_R_then 70 = .ok (.iload 4, 2) := by decide +kernel
theorem d_R_then_72 : decode b_R_then 72 = .ok (.ireturn, 1) := by decide +kernel
abbrev b_R_givenAt : ByteArray := prog_11_method_59_code
def y_R_givenAt : MethodName := ⟨"PassedOnAndBetterModel", "givenAt", "(IZ)I"⟩
theorem m_R_givenAt : MV y_R_givenAt b_R_givenAt 7 (some .int) 2 := ⟨mG 1313 (by decide +kernel) (by decide +kernel), mG 91 (by decide +kernel) (by decide +kernel), by decide +kernel⟩
theorem mi_R_givenAt : Cond.instanceMethod y_R_givenAt ∈ tbG := mG 1312 (by decide +kernel) (by decide +kernel)
theorem ms_R_givenAt : Cond.selects y_R_givenAt.cls y_R_givenAt y_R_givenAt ∈ tbG := mG 62 (by decide +kernel) (by decide +kernel)
theorem d_R_givenAt_0 : decode b_R_givenAt 0 = .ok (.aload_n 0, 1) := by decide +kernel
theorem d_R_givenAt_1 : decode b_R_givenAt 1 = .ok (.getfield 31, 3) := by decide +kernel
theorem d_R_givenAt_4 : decode b_R_givenAt 4 = .ok (.iload_n 1, 1) := by decide +kernel
theorem d_R_givenAt_5 : decode b_R_givenAt 5 = .ok (.iaload, 1) := by decide +kernel
theorem d_R_givenAt_6 : decode b_R_givenAt 6 = .ok (.istore_n 3, 1) := by decide +kernel
theorem d_R_givenAt_7 : decode b_R_givenAt 7 = .ok (.iconst 0, 1) := by decide +kernel
theorem d_R_givenAt_8 : decode b_R_givenAt 8 = .ok (.istore 4, 2) := by decide +kernel
theorem d_R_givenAt_10 : decode b_R_givenAt 10 = .ok (.aload_n 0, 1) := by decide +kernel
theorem d_R_givenAt_11 : decode b_R_givenAt 11 = .ok (.invokevirtual 226, 3) := by decide +kernel
theorem d_R_givenAt_14 : decode b_R_givenAt 14 = .ok (.bipush (-9), 2) := by decide +kernel
theorem d_R_givenAt_16 : decode b_R_givenAt 16 = .ok (.istore 5, 2) := by decide +kernel
theorem d_R_givenAt_18 : decode b_R_givenAt 18 = .ok (.iconst 1, 1) := by decide +kernel
theorem d_R_givenAt_19 : decode b_R_givenAt 19 = .ok (.istore 6, 2) := by decide +kernel
theorem d_R_givenAt_21 : decode b_R_givenAt 21 = .ok (.iload 6, 2) := by decide +kernel
theorem d_R_givenAt_23 : decode b_R_givenAt 23 = .ok (.bipush 60, 2) := by decide +kernel
theorem d_R_givenAt_25 : decode b_R_givenAt 25 = .ok (.if_icmp .gt 64, 3) := by decide +kernel
theorem d_R_givenAt_28 : decode b_R_givenAt 28 = .ok (.iload 5, 2) := by decide +kernel
theorem d_R_givenAt_30 : decode b_R_givenAt 30 = .ok (.ifCond .ge 59, 3) := by decide +kernel
theorem d_R_givenAt_33 : decode b_R_givenAt 33 = .ok (.aload_n 0, 1) := by decide +kernel
theorem d_R_givenAt_34 : decode b_R_givenAt 34 = .ok (.iconst 0, 1) := by decide +kernel
theorem d_R_givenAt_35 : decode b_R_givenAt 35 = .ok (.invokevirtual 209, 3) := by decide +kernel
theorem d_R_givenAt_38 : decode b_R_givenAt 38 = .ok (.iload 4, 2) := by decide +kernel
theorem d_R_givenAt_40 : decode b_R_givenAt 40 = .ok (.ifCond .ne 13, 3) := by decide +kernel
theorem d_R_givenAt_43 : decode b_R_givenAt 43 = .ok (.aload_n 0, 1) := by decide +kernel
theorem d_R_givenAt_44 : decode b_R_givenAt 44 = .ok (.getfield 31, 3) := by decide +kernel
theorem d_R_givenAt_47 : decode b_R_givenAt 47 = .ok (.iload_n 1, 1) := by decide +kernel
theorem d_R_givenAt_48 : decode b_R_givenAt 48 = .ok (.iaload, 1) := by decide +kernel
theorem d_R_givenAt_49 : decode b_R_givenAt 49 = .ok (.iload_n 3, 1) := by decide +kernel
theorem d_R_givenAt_50 : decode b_R_givenAt 50 = .ok (.if_icmp .eq 7, 3) := by decide +kernel
theorem d_R_givenAt_53 : decode b_R_givenAt 53 = .ok (.iconst 1, 1) := by decide +kernel
theorem d_R_givenAt_54 : decode b_R_givenAt 54 = .ok (.goto 4, 3) := by decide +kernel
theorem d_R_givenAt_57 : decode b_R_givenAt 57 = .ok (.iconst 0, 1) := by decide +kernel
theorem d_R_givenAt_58 : decode b_R_givenAt 58 = .ok (.istore 4, 2) := by decide +kernel
theorem d_R_givenAt_60 : decode b_R_givenAt 60 = .ok (.iload 4, 2) := by decide +kernel
theorem d_R_givenAt_62 : decode b_R_givenAt 62 = .ok (.ifCond .eq 21, 3) := by decide +kernel
theorem d_R_givenAt_65 : decode b_R_givenAt 65 = .ok (.iload_n 2, 1) := by decide +kernel
theorem d_R_givenAt_66 : decode b_R_givenAt 66 = .ok (.ifCond .eq 13, 3) := by decide +kernel
theorem d_R_givenAt_69 : decode b_R_givenAt 69 = .ok (.aload_n 0, 1) := by decide +kernel
theorem d_R_givenAt_70 : decode b_R_givenAt 70 = .ok (.getfield 31, 3) := by decide +kernel
theorem d_R_givenAt_73 : decode b_R_givenAt 73 = .ok (.iload_n 1, 1) := by decide +kernel
theorem d_R_givenAt_74 : decode b_R_givenAt 74 = .ok (.iaload, 1) := by decide +kernel
theorem d_R_givenAt_75 : decode b_R_givenAt 75 = .ok (.iload_n 3, 1) := by decide +kernel
theorem d_R_givenAt_76 : decode b_R_givenAt 76 = .ok (.if_icmp .ne 7, 3) := by decide +kernel
theorem d_R_givenAt_79 : decode b_R_givenAt 79 = .ok (.iload 6, 2) := by decide +kernel
theorem d_R_givenAt_81 : decode b_R_givenAt 81 = .ok (.istore 5, 2) := by decide +kernel
theorem d_R_givenAt_83 : decode b_R_givenAt 83 = .ok (.iinc 6 1, 3) := by decide +kernel
theorem d_R_givenAt_86 : decode b_R_givenAt 86 = .ok (.goto (-65), 3) := by decide +kernel
theorem d_R_givenAt_89 : decode b_R_givenAt 89 = .ok (.aload_n 0, 1) := by decide +kernel
theorem d_R_givenAt_90 : decode b_R_givenAt 90 = .ok (.invokevirtual 229, 3) := by decide +kernel
theorem d_R_givenAt_93 : decode b_R_givenAt 93 = .ok (.iload 5, 2) := by decide +kernel
theorem d_R_givenAt_95 : decode b_R_givenAt 95 = .ok (.ireturn, 1) := by decide +kernel
abbrev b_R_given : ByteArray := prog_11_method_60_code
def y_R_given : MethodName := ⟨"PassedOnAndBetterModel", "given", "(II)I"⟩
theorem m_R_given : MV y_R_given b_R_given 4 (some .int) 2 := ⟨mG 1309 (by decide +kernel) (by decide +kernel), mG 91 (by decide +kernel) (by decide +kernel), by decide +kernel⟩
theorem mi_R_given : Cond.instanceMethod y_R_given ∈ tbG := mG 1307 (by decide +kernel) (by decide +kernel)
theorem ms_R_given : Cond.selects y_R_given.cls y_R_given y_R_given ∈ tbG := mG 1308 (by decide +kernel) (by decide +kernel)
theorem d_R_given_0 : decode b_R_given 0 = .ok (.aload_n 0, 1) := by decide +kernel
theorem d_R_given_1 : decode b_R_given 1 = .ok (.iload_n 1, 1) := by decide +kernel
theorem d_R_given_2 : decode b_R_given 2 = .ok (.invokevirtual 142, 3) := by decide +kernel
theorem d_R_given_5 : decode b_R_given 5 = .ok (.ifCond .ne 7, 3) := by decide +kernel
theorem d_R_given_8 : decode b_R_given 8 = .ok (.iconst (-1), 1) := by decide +kernel
theorem d_R_given_9 : decode b_R_given 9 = .ok (.goto 18, 3) := by decide +kernel
theorem d_R_given_12 : decode b_R_given 12 = .ok (.iload_n 2, 1) := by decide +kernel
theorem d_R_given_13 : decode b_R_given 13 = .ok (.iconst 0, 1) := by decide +kernel
theorem d_R_given_14 : decode b_R_given 14 = .ok (.iconst 1, 1) := by decide +kernel
theorem d_R_given_15 : decode b_R_given 15 = .ok (.invokestatic 98, 3) := by decide +kernel
theorem d_R_given_18 : decode b_R_given 18 = .ok (.ifCond .ne 8, 3) := by decide +kernel
theorem d_R_given_21 : decode b_R_given 21 = .ok (.bipush (-2), 2) := by decide +kernel
theorem d_R_given_23 : decode b_R_given 23 = .ok (.goto 4, 3) := by decide +kernel
theorem d_R_given_26 : decode b_R_given 26 = .ok (.iconst 0, 1) := by decide +kernel
theorem d_R_given_27 : decode b_R_given 27 = .ok (.istore_n 3, 1) := by decide +kernel
theorem d_R_given_28 : decode b_R_given 28 = .ok (.iload_n 3, 1) := by decide +kernel
theorem d_R_given_29 : decode b_R_given 29 = .ok (.ifCond .eq 11, 3) := by decide +kernel
theorem d_R_given_32 : decode b_R_given 32 = .ok (.aload_n 0, 1) := by decide +kernel
theorem d_R_given_33 : decode b_R_given 33 = .ok (.iload_n 3, 1) := by decide +kernel
theorem d_R_given_34 : decode b_R_given 34 = .ok (.invokevirtual 87, 3) := by decide +kernel
theorem d_R_given_37 : decode b_R_given 37 = .ok (.goto 18, 3) := by decide +kernel
theorem d_R_given_40 : decode b_R_given 40 = .ok (.aload_n 0, 1) := by decide +kernel
theorem d_R_given_41 : decode b_R_given 41 = .ok (.iload_n 1, 1) := by decide +kernel
theorem d_R_given_42 : decode b_R_given 42 = .ok (.iload_n 2, 1) := by decide +kernel
theorem d_R_given_43 : decode b_R_given 43 = .ok (.iconst 1, 1) := by decide +kernel
theorem d_R_given_44 : decode b_R_given 44 = .ok (.if_icmp .ne 7, 3) := by decide +kernel
theorem d_R_given_47 : decode b_R_given 47 = .ok (.iconst 1, 1) := by decide +kernel
theorem d_R_given_48 : decode b_R_given 48 = .ok (.goto 4, 3) := by decide +kernel
theorem d_R_given_51 : decode b_R_given 51 = .ok (.iconst 0, 1) := by decide +kernel
theorem d_R_given_52 : decode b_R_given 52 = .ok (.invokevirtual 232, 3) := by decide +kernel
theorem d_R_given_55 : decode b_R_given 55 = .ok (.ireturn, 1) := by decide +kernel
